-- DRAFT 83.dep.lean
/-! depends: two patches touch. -/
noncomputable section
theorem hkF_bd {f : Nat → Int} {nb na : Nat} (V : VF f nb na) : ∀ (w i j : Nat), VI f nb na i j → ∀ (h : Nat) (q : Nat × Nat × Nat × Nat), (hkF f nb na w i j)[h]? = some q → i ≤ q.1 ∧ j ≤ q.2.2.1 ∧ q.1 + q.2.1 ≤ nb ∧ q.2.2.1 + q.2.2.2 ≤ na := by
  intro w
  induction w with
  | zero => intro i j hi h q hq; simp [hkF] at hq
  | succ w ih =>
    intro i j hi h q hq
    rw [hkF_s] at hq
    by_cases h1 : i < nb ∨ j < na
    · rw [if_pos h1] at hq
      by_cases h2 : i < nb ∧ f i = (j : Int)
      · rw [if_pos h2] at hq
        have := ih _ _ (VI_s V hi h2.1 h2.2) h q hq
        omega
      · rw [if_neg h2] at hq
        obtain ⟨u1, u2, u3, u4⟩ := VI_h V hi h1 h2
        have n1 := nx_ge (f := f) (nb := nb) (i := i)
        have n2 := u1.1
        have n3 := u1.2.1
        cases h with
        | zero =>
          have hq : (i, nx f nb i - i, j, j2F f nb na i - j) = q := by simpa using hq
          rw [← hq]
          dsimp only
          omega
        | succ h =>
          rw [List.getElem?_cons_succ] at hq
          have := ih _ _ u1 h q hq
          omega
    · rw [if_neg h1] at hq
      simp at hq
theorem hks_bd {f : Nat → Int} {nb na : Nat} (V : VF f nb na) {h : Nat} {q : Nat × Nat × Nat × Nat} (hq : (hks f nb na)[h]? = some q) : q.1 + q.2.1 ≤ nb ∧ q.2.2.1 + q.2.2.2 ≤ na := (hkF_bd V _ _ _ (VI_0 V) h q hq).2.2
/-- the pieces of a patch -/
def PC (σ : Sg) (P : Nat) (l : List (Nat × Nat × Nat × Nat)) : Prop := σ (P + 9) 1 = 4 * (l.length : Nat) ∧ (∀ h : Nat, ∀ q, l[h]? = some q → σ (P + 10) (4 * h) = (q.1 : Nat) ∧ σ (P + 10) (4 * h + 1) = (q.2.1 : Nat) ∧ σ (P + 10) (4 * h + 2) = (q.2.2.1 : Nat) ∧ σ (P + 10) (4 * h + 3) = (q.2.2.2 : Nat)) ∧ ∀ h : Nat, ∀ q, l[h]? = some q → q.1 + q.2.1 ≤ 100 ∧ q.2.2.1 + q.2.2.2 ≤ 100
theorem PC_of {σ : Sg} {P nb na : Nat} (N : NP σ P nb na) (hb : nb ≤ 100) (ha : na ≤ 100) : PC σ P (hks (σ (P + 6)) nb na) := by
  obtain ⟨n1, n3, n5, n7, V, K, C1, C2⟩ := N
  exact ⟨C1, C2, fun h q hq => by have := hks_bd V hq; omega⟩
theorem pc_at {σ : Sg} {P : Nat} {l : List (Nat × Nat × Nat × Nat)} (hP : isPatch P = true) (w : wR σ (P + 9)) (C : PC σ P l) {h : Nat} {q : Nat × Nat × Nat × Nat} (hq : l[h]? = some q) : Dd 100 [vA P, vI h] σ (rI (q.1 : Nat) σ) ∧ Dd 102 [vA P, vI h] σ (rI ((q.1 + q.2.1 : Nat) : Int) σ) ∧ Dd 103 [vA P, vI h] σ (rI (q.2.2.1 : Nat) σ) ∧ Dd 105 [vA P, vI h] σ (rI ((q.2.2.1 + q.2.2.2 : Nat) : Int) σ) := by
  obtain ⟨c1, c2, c3⟩ := C
  obtain ⟨v0, v1, v2, v3⟩ := c2 h q hq
  obtain ⟨b1, b2⟩ := c3 h q hq
  have hl := (List.getElem?_eq_some_iff.mp hq).1
  have hc := cap_le w.1
  have w2 := w.2.2
  have at' : ∀ (i : Int) (n : Nat), i = ((4 * h + n : Nat) : Int) → n < 4 → atS σ (P + 9) i = σ (P + 10) (4 * h + n) := by
    intro i n hi hn
    unfold atS
    rw [if_pos (by omega), hi, show ((4 * h + n : Nat) : Int).toNat = 4 * h + n by omega]
  have e0 := d147 (i := 4 * (h : Int) + 0) w
  have e1 := d147 (i := 4 * (h : Int) + 1) w
  have e2 := d147 (i := 4 * (h : Int) + 2) w
  have e3 := d147 (i := 4 * (h : Int) + 3) w
  rw [show atS σ (P + 9) (4 * (h : Int) + 0) = σ (P + 10) (4 * h) from at' _ 0 (by omega) (by omega), v0] at e0
  rw [at' _ 1 (by omega) (by omega), v1] at e1
  rw [at' _ 2 (by omega) (by omega), v2] at e2
  rw [at' _ 3 (by omega) (by omega), v3] at e3
  refine ⟨b100 hP ⟨by omega, by omega, _, _, e0, rfl⟩, b102 hP ⟨by omega, by omega, _, _, e0, by omega, by omega, _, _, e1, by omega, ?_⟩, b103 hP ⟨by omega, by omega, _, _, e2, rfl⟩, b105 hP ⟨by omega, by omega, _, _, e2, by omega, by omega, _, _, e3, by omega, ?_⟩⟩
  · rw [show ((q.1 + q.2.1 : Nat) : Int) = (q.1 : Nat) + (q.2.1 : Nat) by omega]
  · rw [show ((q.2.2.1 + q.2.2.2 : Nat) : Int) = (q.2.2.1 : Nat) + (q.2.2.2 : Nat) by omega]
/-- a hunk of the first and one of the second lie in one place between -/
def T2 (q r : Nat × Nat × Nat × Nat) : Prop := q.2.2.1 ≤ r.1 + r.2.1 ∧ r.1 ≤ q.2.2.1 + q.2.2.2
def TCH (l1 l2 : List (Nat × Nat × Nat × Nat)) : Prop := ∃ (h : Nat) (q : Nat × Nat × Nat × Nat) (g : Nat) (r : Nat × Nat × Nat × Nat), l1[h]? = some q ∧ l2[g]? = some r ∧ T2 q r
theorem d98' {σ : Sg} {P : Nat} {l : List (Nat × Nat × Nat × Nat)} (hP : isPatch P = true) (C : PC σ P l) : Dd 98 [vA P] σ (rI (l.length : Nat) σ) := d98 hP C.1
theorem l6b {σ : Sg} {P Q h : Nat} {q : Nat × Nat × Nat × Nat} {l1 l2 : List (Nat × Nat × Nat × Nat)} (hP : isPatch P = true) (hQ : isPatch Q = true) (wP : wR σ (P + 9)) (wQ : wR σ (Q + 9)) (C1 : PC σ P l1) (C2 : PC σ Q l2) (hq : l1[h]? = some q) {d0 : Option AV} : ∀ (d g : Nat), g + d = l2.length → ((∃ (g' : Nat) (r : Nat × Nat × Nat × Nat), g ≤ g' ∧ l2[g']? = some r ∧ T2 q r) → C6_13 d0 P Q h g σ (rI 1 σ)) ∧ (¬ (∃ (g' : Nat) (r : Nat × Nat × Nat × Nat), g ≤ g' ∧ l2[g']? = some r ∧ T2 q r) → ∀ {o : Rs}, (∀ d4, C6_2 d0 P Q ((h + 1 : Nat) : Int) d4 σ o) → C6_13 d0 P Q h g σ o) := by
  have hlh := (List.getElem?_eq_some_iff.mp hq).1
  have hc := cap_le wP.1
  have hc2 := cap_le wQ.1
  have z1 := C1.1
  have z2 := C2.1
  have w2 := wP.2.2
  have w3 := wQ.2.2
  intro d
  induction d with
  | zero =>
    intro g hg
    refine ⟨fun ⟨g', r, h1, h2, h3⟩ => ?_, fun _ {o} hh => ?_⟩
    · have := (List.getElem?_eq_some_iff.mp h2).1
      omega
    · refine b6_13 hQ hP ⟨_, _, d98' hQ C2, ?_⟩
      rw [if_neg (by omega), show (h : Int) + 1 = ((h + 1 : Nat) : Int) by omega]
      exact ⟨by omega, hh _⟩
  | succ d ih =>
    intro g hg
    obtain ⟨i1, i2⟩ := ih (g + 1) (by omega)
    obtain ⟨r, hr⟩ : ∃ r, l2[g]? = some r := ⟨_, List.getElem?_eq_getElem (by omega)⟩
    obtain ⟨-, -, a3, a5⟩ := pc_at hP wP C1 hq
    obtain ⟨b0, b2, -, -⟩ := pc_at hQ wQ C2 hr
    have nxt : ∀ {o : Rs}, ¬ T2 q r → C6_13 d0 P Q h ((g + 1 : Nat) : Int) σ o → C6_13 d0 P Q h g σ o := by
      intro o ht hh
      have h52 : C6_52 d0 P Q h g σ o := b6_52 ⟨by omega, by rw [show (g : Int) + 1 = ((g + 1 : Nat) : Int) by omega]; exact hh⟩
      refine b6_13 hQ hP ⟨_, _, d98' hQ C2, ?_⟩
      rw [if_pos (by omega)]
      refine ⟨_, _, a3, _, _, b2, ?_⟩
      by_cases y : q.2.2.1 ≤ r.1 + r.2.1
      · rw [if_pos (by omega)]
        refine ⟨_, _, b0, _, _, a5, ?_⟩
        rw [if_neg (fun e => ht ⟨y, by omega⟩)]
        exact h52
      · rw [if_neg (by omega)]
        exact h52
    by_cases ht : T2 q r
    · refine ⟨fun _ => ?_, fun hn => absurd ⟨g, r, Nat.le_refl g, hr, ht⟩ hn⟩
      refine b6_13 hQ hP ⟨_, _, d98' hQ C2, ?_⟩
      have t1 := ht.1
      have t2 := ht.2
      rw [if_pos (by omega)]
      refine ⟨_, _, a3, _, _, b2, ?_⟩
      rw [if_pos (by omega)]
      refine ⟨_, _, b0, _, _, a5, ?_⟩
      rw [if_pos (by omega)]
    · refine ⟨fun ⟨g', r', h1, h2, h3⟩ => nxt ht (i1 ⟨g', r', ?_, h2, h3⟩), fun hn {o} hh => nxt ht (i2 (fun ⟨g', r', h1, h2, h3⟩ => hn ⟨g', r', by omega, h2, h3⟩) hh)⟩
      by_cases e : g' = g
      · rw [e, hr] at h2
        cases h2
        exact absurd h3 ht
      · omega
theorem l6a {σ : Sg} {P Q : Nat} {l1 l2 : List (Nat × Nat × Nat × Nat)} (hP : isPatch P = true) (hQ : isPatch Q = true) (wP : wR σ (P + 9)) (wQ : wR σ (Q + 9)) (C1 : PC σ P l1) (C2 : PC σ Q l2) {d0 : Option AV} : ∀ (d h : Nat) (d4 : Option AV), h + d = l1.length → ((∃ (h' : Nat) (q : Nat × Nat × Nat × Nat) (g : Nat) (r : Nat × Nat × Nat × Nat), h ≤ h' ∧ l1[h']? = some q ∧ l2[g]? = some r ∧ T2 q r) → C6_2 d0 P Q h d4 σ (rI 1 σ)) ∧ (¬ (∃ (h' : Nat) (q : Nat × Nat × Nat × Nat) (g : Nat) (r : Nat × Nat × Nat × Nat), h ≤ h' ∧ l1[h']? = some q ∧ l2[g]? = some r ∧ T2 q r) → C6_2 d0 P Q h d4 σ (rI 0 σ)) := by
  intro d
  induction d with
  | zero =>
    intro h d4 hh
    refine ⟨fun ⟨h', q, g, r, h1, h2, h3, h4⟩ => ?_, fun _ => ?_⟩
    · have := (List.getElem?_eq_some_iff.mp h2).1
      omega
    · refine b6_2 hP ⟨_, _, d98' hP C1, ?_⟩
      rw [if_neg (by omega)]
  | succ d ih =>
    intro h d4 hh
    obtain ⟨q, hq⟩ : ∃ q, l1[h]? = some q := ⟨_, List.getElem?_eq_getElem (by omega)⟩
    obtain ⟨j1, j2⟩ := l6b (d0 := d0) hP hQ wP wQ C1 C2 hq l2.length 0 (by omega)
    have go : ∀ {o : Rs}, C6_13 d0 P Q h ((0 : Nat) : Int) σ o → C6_2 d0 P Q h d4 σ o := by
      intro o hx
      refine b6_2 hP ⟨_, _, d98' hP C1, ?_⟩
      rw [if_pos (by omega)]
      exact hx
    by_cases ht : ∃ g' r, 0 ≤ g' ∧ l2[g']? = some r ∧ T2 q r
    · refine ⟨fun _ => go (j1 ht), fun hn => ?_⟩
      obtain ⟨g, r, -, h2, h3⟩ := ht
      exact absurd ⟨h, q, g, r, Nat.le_refl h, hq, h2, h3⟩ hn
    · refine ⟨fun ⟨h', q', g, r, h1, h2, h3, h4⟩ => go (j2 ht (fun d4 => (ih (h + 1) d4 (by omega)).1 ⟨h', q', g, r, ?_, h2, h3, h4⟩)), fun hn => go (j2 ht (fun d4 => (ih (h + 1) d4 (by omega)).2 (fun ⟨h', q', g, r, h1, h2, h3, h4⟩ => hn ⟨h', q', g, r, by omega, h2, h3, h4⟩)))⟩
      by_cases e : h' = h
      · rw [e, hq] at h2
        cases h2
        exact absurd ⟨g, r, Nat.zero_le _, h3, h4⟩ ht
      · omega
/-- Combiner.doTouch -/
theorem d6 {σ : Sg} {P Q : Nat} {l1 l2 : List (Nat × Nat × Nat × Nat)} (hP : isPatch P = true) (hQ : isPatch Q = true) (wP : wR σ (P + 9)) (wQ : wR σ (Q + 9)) (C1 : PC σ P l1) (C2 : PC σ Q l2) : (TCH l1 l2 → Dd 6 [vA 350, vA P, vA Q] σ (rI 1 σ)) ∧ (¬ TCH l1 l2 → Dd 6 [vA 350, vA P, vA Q] σ (rI 0 σ)) := by
  obtain ⟨a, b⟩ := l6a (d0 := some (vA 350)) hP hQ wP wQ C1 C2 l1.length 0 none (by omega)
  exact ⟨fun ⟨h, q, g, r, h1, h2, h3⟩ => b6 (a ⟨h, q, g, r, Nat.zero_le _, h1, h2, h3⟩), fun hn => b6 (b (fun ⟨h, q, g, r, _, h1, h2, h3⟩ => hn ⟨h, q, g, r, h1, h2, h3⟩))⟩
/-- the reference's dependsOn -/
theorem l292b {σ : Sg} {h : Nat} {q : Nat × Nat × Nat × Nat} {l1 l2 : List (Nat × Nat × Nat × Nat)} (H1 : HK σ 0 0 l1) (H2 : HK σ 1 0 l2) (b1 : ∀ h : Nat, ∀ q, l1[h]? = some q → q.1 + q.2.1 ≤ 100 ∧ q.2.2.1 + q.2.2.2 ≤ 100) (b2 : ∀ h : Nat, ∀ q, l2[h]? = some q → q.1 + q.2.1 ≤ 100 ∧ q.2.2.1 + q.2.2.2 ≤ 100) (n1 : l1.length ≤ 120) (n2 : l2.length ≤ 120) (hq : l1[h]? = some q) {d1 d2 : Option AV} {z : Int} {o : Rs} : ∀ (d g : Nat) (y : Int), g + d = l2.length → (y = 0 ∨ y = 1) → (z = 0 ∨ z = 1) → (z = 1 ↔ (y = 1 ∨ ∃ (g' : Nat) (r : Nat × Nat × Nat × Nat), g ≤ g' ∧ l2[g']? = some r ∧ T2 q r)) → (∀ d7, C292_21 d1 d2 (l1.length : Nat) (l2.length : Nat) z ((h + 1 : Nat) : Int) d7 σ o) → C292_32 d1 d2 (l1.length : Nat) (l2.length : Nat) y h ((128 + g : Nat) : Int) σ o := by
  have hlh := (List.getElem?_eq_some_iff.mp hq).1
  intro d
  induction d with
  | zero =>
    intro g y hg hy hz hi hh
    have ey : y = z := by
      have hno : ¬ ∃ (g' : Nat) (r : Nat × Nat × Nat × Nat), g ≤ g' ∧ l2[g']? = some r ∧ T2 q r := by
        rintro ⟨g', r, h1, h2, h3⟩
        have := (List.getElem?_eq_some_iff.mp h2).1
        omega
      rcases hy with hy | hy
      · rcases hz with hz | hz
        · omega
        · rcases hi.mp hz with e | e
          · omega
          · exact absurd e hno
      · have := hi.mpr (Or.inl hy)
        omega
    refine b292_32 ⟨by omega, ?_⟩
    rw [if_neg (by omega), ey, show (h : Int) + 1 = ((h + 1 : Nat) : Int) by omega]
    exact ⟨by omega, hh _⟩
  | succ d ih =>
    intro g y hg hy hz hi hh
    obtain ⟨r, hr⟩ : ∃ r, l2[g]? = some r := ⟨_, List.getElem?_eq_getElem (by omega)⟩
    obtain ⟨v0, v1, v2, v3⟩ := H1 h q hq
    obtain ⟨u0, u1, u2, u3⟩ := H2 g r hr
    rw [show 128 * 0 + (0 + h) = h by omega] at v0 v1 v2 v3
    rw [show 128 * 1 + (0 + g) = 128 + g by omega] at u0 u1 u2 u3
    have bq := b1 h q hq
    have br := b2 g r hr
    have nxt : ∀ y1 : Int, C292_32 d1 d2 (l1.length : Nat) (l2.length : Nat) y1 h ((128 + (g + 1) : Nat) : Int) σ o → ∀ d5, C292_103 d1 d2 (l1.length : Nat) (l2.length : Nat) d5 h ((128 + g : Nat) : Int) y1 σ o := by
      intro y1 hx d5
      refine b292_103 ⟨by omega, ?_⟩
      rw [show ((128 + g : Nat) : Int) + 1 = ((128 + (g + 1) : Nat) : Int) by omega]
      exact hx
    have sp : (∃ (g' : Nat) (r : Nat × Nat × Nat × Nat), g ≤ g' ∧ l2[g']? = some r ∧ T2 q r) ↔ (T2 q r ∨ ∃ (g' : Nat) (r : Nat × Nat × Nat × Nat), g + 1 ≤ g' ∧ l2[g']? = some r ∧ T2 q r) := by
      refine ⟨fun ⟨g', r', h1, h2, h3⟩ => ?_, fun e => ?_⟩
      · by_cases e : g' = g
        · rw [e, hr] at h2
          cases h2
          exact Or.inl h3
        · exact Or.inr ⟨g', r', by omega, h2, h3⟩
      · rcases e with e | ⟨g', r', h1, h2, h3⟩
        · exact ⟨g, r, Nat.le_refl g, hr, e⟩
        · exact ⟨g', r', by omega, h2, h3⟩
    refine b292_32 ⟨by omega, ?_⟩
    rw [if_pos (by omega)]
    by_cases hy0 : y = 0
    · rw [if_pos hy0, show ((h : Nat) : Int).toNat = h by omega, show ((128 + g : Nat) : Int).toNat = 128 + g by omega, v2, v3, u0, u1]
      refine ⟨by omega, by omega, by omega, by omega, by omega, by omega, by omega, by omega, _, _, b291 rfl, ?_⟩
      by_cases ht : T2 q r
      · have t1 : ((q.2.2.1 : Nat) : Int) ≤ ((r.1 : Nat) : Int) + ((r.2.1 : Nat) : Int) := Int.ofNat_le.mpr ht.1
        have t2 : ((r.1 : Nat) : Int) ≤ ((q.2.2.1 : Nat) : Int) + ((q.2.2.2 : Nat) : Int) := Int.ofNat_le.mpr ht.2
        rw [if_pos t1, if_pos t2, if_neg (show ¬ (1 : Int) = 0 by decide)]
        refine b292_98 (nxt 1 (ih (g + 1) 1 (by omega) (Or.inr rfl) hz ?_ hh) _)
        rw [hi]
        exact ⟨fun _ => Or.inl rfl, fun _ => Or.inr (sp.mpr (Or.inl ht))⟩
      · have e0 : (if ((q.2.2.1 : Nat) : Int) ≤ (r.1 : Nat) + (r.2.1 : Nat) then (if ((r.1 : Nat) : Int) ≤ (q.2.2.1 : Nat) + (q.2.2.2 : Nat) then (1 : Int) else 0) else 0) = 0 := by
          by_cases y1 : q.2.2.1 ≤ r.1 + r.2.1
          · rw [if_pos (by omega), if_neg (fun e => ht ⟨y1, by omega⟩)]
          · rw [if_neg (by omega)]
        rw [e0, if_pos rfl]
        refine nxt 0 (ih (g + 1) 0 (by omega) (Or.inl rfl) hz ?_ hh) _
        rw [hi, sp]
        refine ⟨fun e => ?_, fun e => ?_⟩
        · rcases e with e | e | e
          · omega
          · exact absurd e ht
          · exact Or.inr e
        · rcases e with e | e
          · exact absurd e (by decide)
          · exact Or.inr (Or.inr e)
    · rw [if_neg hy0]
      have hy1 : y = 1 := by clear sp hi ih; omega
      refine b292_98 (nxt 1 (ih (g + 1) 1 (by omega) (Or.inr rfl) hz ?_ hh) _)
      rw [hi]
      exact ⟨fun _ => Or.inl rfl, fun _ => Or.inl hy1⟩
theorem l292a {σ : Sg} {l1 l2 : List (Nat × Nat × Nat × Nat)} (H1 : HK σ 0 0 l1) (H2 : HK σ 1 0 l2) (b1 : ∀ h : Nat, ∀ q, l1[h]? = some q → q.1 + q.2.1 ≤ 100 ∧ q.2.2.1 + q.2.2.2 ≤ 100) (b2 : ∀ h : Nat, ∀ q, l2[h]? = some q → q.1 + q.2.1 ≤ 100 ∧ q.2.2.1 + q.2.2.2 ≤ 100) (n1 : l1.length ≤ 120) (n2 : l2.length ≤ 120) {d1 d2 : Option AV} {z : Int} (hz : z = 0 ∨ z = 1) : ∀ (d h : Nat) (y : Int) (d7 : Option AV), h + d = l1.length → (y = 0 ∨ y = 1) → (z = 1 ↔ (y = 1 ∨ ∃ (h' : Nat) (q : Nat × Nat × Nat × Nat) (g : Nat) (r : Nat × Nat × Nat × Nat), h ≤ h' ∧ l1[h']? = some q ∧ l2[g]? = some r ∧ T2 q r)) → C292_21 d1 d2 (l1.length : Nat) (l2.length : Nat) y h d7 σ (rI z σ) := by
  intro d
  induction d with
  | zero =>
    intro h y d7 hh hy hi
    have ey : y = z := by
      have hno : ¬ ∃ (h' : Nat) (q : Nat × Nat × Nat × Nat) (g : Nat) (r : Nat × Nat × Nat × Nat), h ≤ h' ∧ l1[h']? = some q ∧ l2[g]? = some r ∧ T2 q r := by
        rintro ⟨h', q, g, r, h1, h2, h3, h4⟩
        have := (List.getElem?_eq_some_iff.mp h2).1
        omega
      rcases hy with hy | hy
      · rcases hz with hz | hz
        · omega
        · rcases hi.mp hz with e | e
          · omega
          · exact absurd e hno
      · have := hi.mpr (Or.inl hy)
        omega
    refine b292_21 ?_
    rw [if_neg (by omega), ey]
    exact ⟨hz, rfl⟩
  | succ d ih =>
    intro h y d7 hh hy hi
    obtain ⟨q, hq⟩ : ∃ q, l1[h]? = some q := ⟨_, List.getElem?_eq_getElem (by omega)⟩
    have sp : (∃ (h' : Nat) (q : Nat × Nat × Nat × Nat) (g : Nat) (r : Nat × Nat × Nat × Nat), h ≤ h' ∧ l1[h']? = some q ∧ l2[g]? = some r ∧ T2 q r) ↔ ((∃ g' r, 0 ≤ g' ∧ l2[g']? = some r ∧ T2 q r) ∨ ∃ (h' : Nat) (q : Nat × Nat × Nat × Nat) (g : Nat) (r : Nat × Nat × Nat × Nat), h + 1 ≤ h' ∧ l1[h']? = some q ∧ l2[g]? = some r ∧ T2 q r) := by
      refine ⟨fun ⟨h', q', g, r, h1, h2, h3, h4⟩ => ?_, fun e => ?_⟩
      · by_cases e : h' = h
        · rw [e, hq] at h2
          cases h2
          exact Or.inl ⟨g, r, Nat.zero_le _, h3, h4⟩
        · exact Or.inr ⟨h', q', g, r, by omega, h2, h3, h4⟩
      · rcases e with ⟨g, r, _, h3, h4⟩ | ⟨h', q', g, r, h1, h2, h3, h4⟩
        · exact ⟨h, q, g, r, Nat.le_refl h, hq, h3, h4⟩
        · exact ⟨h', q', g, r, by omega, h2, h3, h4⟩
    refine b292_21 ?_
    rw [if_pos (by omega)]
    obtain ⟨z1, hz1, e1⟩ : ∃ z1 : Int, (z1 = 0 ∨ z1 = 1) ∧ (z1 = 1 ↔ (y = 1 ∨ ∃ g' r, 0 ≤ g' ∧ l2[g']? = some r ∧ T2 q r)) := by
      by_cases e : (y = 1 ∨ ∃ g' r, 0 ≤ g' ∧ l2[g']? = some r ∧ T2 q r)
      · exact ⟨1, Or.inr rfl, ⟨fun _ => e, fun _ => rfl⟩⟩
      · exact ⟨0, Or.inl rfl, ⟨fun h => absurd h (by decide), fun h => absurd h e⟩⟩
    refine l292b (z := z1) H1 H2 b1 b2 n1 n2 hq l2.length 0 y (by omega) hy hz1 e1 (fun d7 => ih (h + 1) z1 d7 (by omega) hz1 ?_)
    rw [hi, e1, sp]
    exact or_assoc.symm
theorem d292 {s t nb na nb' na' : Nat} {O N F O' N' F' : Nat → Int} {σ : Sg} (hs : s < 44) (ht : t < 44) (h1 : nb ≤ 100) (h2 : na ≤ 100) (h3 : nb' ≤ 100) (h4 : na' ≤ 100) (V : VF F nb na) (V' : VF F' nb' na') (S : Slot σ s nb na O N F) (S' : Slot σ t nb' na' O' N' F') : ∃ z σ', Dd 292 [vA 682, vI s, vI t] σ (rI z σ') ∧ (z = 0 ∨ z = 1) ∧ (z = 1 ↔ TCH (hks F nb na) (hks F' nb' na')) ∧ ∀ c k, ¬ (700 ≤ c ∧ c ≤ 704) → σ' c k = σ c k := by
  obtain ⟨s1, a1, a2, a3, a4, a5⟩ := d280 (wh := 0) hs (by decide) h1 h2 V S.1 S.2.1 S.2.2.2.2
  obtain ⟨s2, c1, c2, c3, c4, c5⟩ := d280 (wh := 1) (σ := s1) ht (by decide) h3 h4 V' (by rw [a5 _ _ (by omega) (by omega)]; exact S'.1) (by rw [a5 _ _ (by omega) (by omega)]; exact S'.2.1) (fun i hi => by rw [a5 _ _ (by omega) (by omega)]; exact S'.2.2.2.2 i hi)
  have H1 : HK s2 0 0 (hks F nb na) := by
    intro h q hq
    have hl := (List.getElem?_eq_some_iff.mp hq).1
    have := a2 h q hq
    rw [c5 _ _ (by omega) (by omega), c5 _ _ (by omega) (by omega), c5 _ _ (by omega) (by omega), c5 _ _ (by omega) (by omega)]
    exact this
  obtain ⟨z, hz, e⟩ : ∃ z : Int, (z = 0 ∨ z = 1) ∧ (z = 1 ↔ TCH (hks F nb na) (hks F' nb' na')) := by
    by_cases e : TCH (hks F nb na) (hks F' nb' na')
    · exact ⟨1, Or.inr rfl, ⟨fun _ => e, fun _ => rfl⟩⟩
    · exact ⟨0, Or.inl rfl, ⟨fun h => absurd h (by decide), fun h => absurd h e⟩⟩
  have L := l292a (z := z) (d1 := some (vI s)) (d2 := some (vI t)) H1 c2 (fun h q hq => by have := hks_bd V hq; omega) (fun h q hq => by have := hks_bd V' hq; omega) (by omega) (by omega) hz (hks F nb na).length 0 0 none (by omega) (Or.inl rfl) (by
    rw [e]
    exact ⟨fun ⟨h, q, g, r, y1, y2, y3⟩ => Or.inr ⟨h, q, g, r, Nat.zero_le _, y1, y2, y3⟩, fun y => by
      rcases y with y | ⟨h, q, g, r, _, y1, y2, y3⟩
      · exact absurd y (by decide)
      · exact ⟨h, q, g, r, y1, y2, y3⟩⟩)
  exact ⟨z, s2, b292 ⟨_, _, a1, _, _, c1, L⟩, hz, e, fun c k h => by rw [c5 c k (by omega) (by omega), a5 c k (by omega) (by omega)]⟩
/-- the second was made of what the first made -/
theorem l290 {s t nb na nb' na' : Nat} {O N F O' N' F' : Nat → Int} {σ : Sg} (hs : s < 44) (ht : t < 44) (h2 : na ≤ 100) (S : Slot σ s nb na O N F) (S' : Slot σ t nb' na' O' N' F') (he : na = nb') : ∀ (d i : Nat), i + d = na → ((∀ k, i ≤ k → k < na → N k = O' k) → C290_24 s t 1 i σ (rI 1 σ)) ∧ (¬ (∀ k, i ≤ k → k < na → N k = O' k) → C290_24 s t 1 i σ (rI 0 σ)) := by
  intro d
  induction d with
  | zero =>
    intro i hi
    refine ⟨fun _ => b290_24 ⟨by omega, ?_⟩, fun h => absurd (fun k h1 h2 => by omega) h⟩
    rw [show ((s : Nat) : Int).toNat = s by omega, S.2.1, if_neg (by omega)]
    exact ⟨Or.inr rfl, rfl⟩
  | succ d ih =>
    intro i hi
    obtain ⟨j1, j2⟩ := ih (i + 1) (by omega)
    have e1 : ((100 * (s : Int)) + (i : Int)).toNat = 100 * s + i := by omega
    have e2 : ((100 * (t : Int)) + (i : Int)).toNat = 100 * t + i := by omega
    have go : ∀ {o : Rs} (y : Int), y = (if N i = O' i then 1 else 0) → C290_24 s t y ((i + 1 : Nat) : Int) σ o → C290_24 s t 1 i σ o := by
      intro o y hy hh
      refine b290_24 ⟨by omega, ?_⟩
      rw [show ((s : Nat) : Int).toNat = s by omega, S.2.1, if_pos (by omega), if_neg (by decide), e1, e2, S.2.2.2.1 i (by omega), S'.2.2.1 i (by omega), ← hy]
      refine ⟨by omega, by omega, by omega, by omega, by omega, by omega, b290_71 ⟨by omega, ?_⟩⟩
      rw [show (i : Int) + 1 = ((i + 1 : Nat) : Int) by omega]
      exact hh
    have z0 : C290_24 s t 0 ((i + 1 : Nat) : Int) σ (rI 0 σ) := by
      refine b290_24 ⟨by omega, ?_⟩
      by_cases y : ((i + 1 : Nat) : Int) < σ 689 ((s : Int)).toNat
      · rw [if_pos y, if_pos rfl]; exact ⟨Or.inl rfl, rfl⟩
      · rw [if_neg y]; exact ⟨Or.inl rfl, rfl⟩
    by_cases hx : N i = O' i
    · have hx1 : (1 : Int) = (if N i = O' i then 1 else 0) := by rw [if_pos hx]
      refine ⟨fun h => go 1 hx1 (j1 (fun k h1 h2 => h k (by omega) h2)), fun h => go 1 hx1 (j2 (fun g => h (fun k h1 h2 => ?_)))⟩
      by_cases e : k = i
      · rw [e]; exact hx
      · exact g k (by omega) h2
    · have hx0 : (0 : Int) = (if N i = O' i then 1 else 0) := by rw [if_neg hx]
      exact ⟨fun h => absurd (h i (Nat.le_refl i) (by omega)) hx, fun _ => go 0 hx0 z0⟩
def FLW (nb' na : Nat) (N O' : Nat → Int) : Prop := na = nb' ∧ ∀ k, k < na → N k = O' k
theorem d290 {s t nb na nb' na' : Nat} {O N F O' N' F' : Nat → Int} {σ : Sg} (hs : s < 44) (ht : t < 44) (h2 : na ≤ 100) (S : Slot σ s nb na O N F) (S' : Slot σ t nb' na' O' N' F') : (FLW nb' na N O' → Dd 290 [vA 682, vI s, vI t] σ (rI 1 σ)) ∧ (¬ FLW nb' na N O' → Dd 290 [vA 682, vI s, vI t] σ (rI 0 σ)) := by
  have go : ∀ {o : Rs}, C290_24 s t (if na = nb' then 1 else 0) ((0 : Nat) : Int) σ o → Dd 290 [vA 682, vI s, vI t] σ o := by
    intro o hh
    refine b290 ⟨by omega, by omega, b290_20 ?_⟩
    rw [show ((s : Nat) : Int).toNat = s by omega, show ((t : Nat) : Int).toNat = t by omega, S.2.1, S'.1]
    by_cases e : na = nb'
    · rw [if_pos (by omega)]
      rw [if_pos e] at hh
      exact hh
    · rw [if_neg (by omega)]
      rw [if_neg e] at hh
      exact hh
  by_cases e : na = nb'
  · obtain ⟨a, b⟩ := l290 hs ht h2 S S' e na 0 (by omega)
    rw [if_pos e] at go
    exact ⟨fun h => go (a (fun k _ hk => h.2 k hk)), fun h => go (b (fun g => h ⟨e, fun k hk => g k (Nat.zero_le k) hk⟩))⟩
  · rw [if_neg e] at go
    refine ⟨fun h => absurd h.1 e, fun _ => go (b290_24 ⟨by omega, ?_⟩)⟩
    by_cases y : ((0 : Nat) : Int) < σ 689 ((s : Int)).toNat
    · rw [if_pos y, if_pos rfl]; exact ⟨Or.inl rfl, rfl⟩
    · rw [if_neg y]; exact ⟨Or.inl rfl, rfl⟩
theorem d237 {σ : Sg} {P Q nb na nb' na' : Nat} (hP : isPatch P = true) (hQ : isPatch Q = true) (w : WF σ) (N : NP σ P nb na) (N' : NP σ Q nb' na') : (FLW nb' na (σ (P + 4)) (σ (Q + 2)) → Dd 237 [vA 0, vA P, vA Q] σ (rV σ)) ∧ (¬ FLW nb' na (σ (P + 4)) (σ (Q + 2)) → Dd 237 [vA 0, vA P, vA Q] σ (rX 2 σ)) := by
  have n3 := N.2.1
  have n1 := N'.1
  refine ⟨fun h => b237 hQ hP ⟨_, _, d156_t (WF_w w (pat_1 hQ)) (WF_w w (pat_3 hP)) ⟨by have := h.1; omega, fun k hk => (h.2 k (by have := h.1; omega)).symm⟩, ?_⟩, fun h => b237 hQ hP ⟨_, _, d156_f (WF_w w (pat_1 hQ)) (WF_w w (pat_3 hP)) (fun g => h ⟨by have := g.1; omega, fun k hk => (g.2 k (by have := g.1; omega)).symm⟩), ?_⟩⟩
  · rw [if_neg (show ¬ (1 : Int) = 0 by decide)]
  · rw [if_pos rfl]
theorem o12 {σ : Sg} {c a1 a2 : Int} (H : Rel c σ) : OpB 402 302 [vA 0, vI a1, vI a2, vA 726] [vA 682, vI a1, vI a2] σ (c + 1) := by
  by_cases g1 : a1 < 0
  · exact x12_0 H g1
  by_cases g2 : σ 0 3 ≤ a1
  · exact x12_1 H g2
  have k1 : 0 ≤ a1 ∧ a1 < σ 0 3 := by omega
  by_cases g3 : a2 < 0
  · exact x12_2 H k1 g3
  by_cases g4 : σ 0 3 ≤ a2
  · exact x12_3 H k1 g4
  have k2 : 0 ≤ a2 ∧ a2 < σ 0 3 := by omega
  obtain ⟨a, rfl⟩ := Int.eq_ofNat_of_zero_le k1.1
  obtain ⟨b, rfl⟩ := Int.eq_ofNat_of_zero_le k2.1
  have hn := (rel_n H).1
  obtain ⟨hP, q1, q2, w1, w3⟩ := po_pat H k1.2
  obtain ⟨nb, na, b1, b2, N, S⟩ := po_slot q1 q2 w1 w3
  obtain ⟨hQ, r1, r2, y1, y3⟩ := po_pat H k2.2
  obtain ⟨nb', na', b3, b4, N', S'⟩ := po_slot r1 r2 y1 y3
  have e230 := d230_ok (σ := σ) k1 hn.2.2
  have f230 := d230_ok (σ := σ) k2 hn.2.2
  rw [show ((a : Int)).toNat = a by omega] at e230
  rw [show ((b : Int)).toNat = b by omega] at f230
  obtain ⟨c1, c2⟩ := d237 hP hQ H.1 N N'
  have m0 : ∀ {s : Sg} {o : Rs}, s 682 3 = σ 682 3 → C302_21 a b none 1 s o → Dd 302 [vA 682, vI a, vI b] s o := by
    intro s o h hh
    refine b302 ⟨_, _, d248_ok (by omega), ?_⟩
    rw [if_neg (show ¬ (1 : Int) = 0 by decide)]
    refine ⟨_, _, d248_ok (by omega), ?_⟩
    rw [if_neg (show ¬ (1 : Int) = 0 by decide)]
    exact hh
  by_cases hf : FLW nb' na (σ (20 + 13 * a + 4)) (σ (20 + 13 * b + 2))
  · obtain ⟨t1, t2⟩ := d6 hP hQ (WF_w H.1 (pat_9 hP)) (WF_w H.1 (pat_9 hQ)) (PC_of N (by omega) (by omega)) (PC_of N' (by omega) (by omega))
    obtain ⟨v, hv, ev, dv⟩ : ∃ v : Int, (v = 0 ∨ v = 1) ∧ (v = 1 ↔ TCH (hks (σ (20 + 13 * a + 6)) nb na) (hks (σ (20 + 13 * b + 6)) nb' na')) ∧ Dd 6 [vA 350, vA (20 + 13 * a), vA (20 + 13 * b)] σ (rI v σ) := by
      by_cases e : TCH (hks (σ (20 + 13 * a + 6)) nb na) (hks (σ (20 + 13 * b + 6)) nb' na')
      · exact ⟨1, Or.inr rfl, ⟨fun _ => e, fun _ => rfl⟩, t1 e⟩
      · exact ⟨0, Or.inl rfl, ⟨fun h => absurd h (by decide), fun h => absurd h e⟩, t2 e⟩
    have hA : Dd 402 [vA 0, vI a, vI b, vA 726] σ (rI 0 (upS σ 726 0 v)) := by
      refine b402 (Or.inl ⟨_, _, b184 (Or.inl ⟨_, _, e230, hP, Or.inl ⟨_, _, f230, hQ, Or.inl ⟨_, c1 hf, _, _, dv, hv, rfl⟩⟩⟩), b402_16 ⟨by decide, ?_⟩⟩)
      rcases hv with e | e <;> rw [e] <;> rfl
    have fr : ∀ c k, 685 ≤ c ∧ c ≤ 689 → upS (upS σ 726 0 v) 682 0 0 c k = σ c k := fun c k h => by rw [up_a (by omega), up_a (by omega)]
    have S1 := Slot_fr fr S
    have S2 := Slot_fr fr S'
    have fr0 : ∀ c k, 685 ≤ c ∧ c ≤ 689 → upS σ 726 0 v c k = σ c k := fun c k h => by rw [up_a (by omega)]
    obtain ⟨z, s2, d1, d2, d3, d4⟩ := d292 (s := a) (t := b) (by omega) (by omega) (by omega) (by omega) (by omega) (by omega) N.2.2.2.2.1 N'.2.2.2.2.1 S1 S2
    have ezv : z = v := by
      rcases hv with e | e
      · rcases d2 with e2 | e2
        · omega
        · have := ev.mpr (d3.mp e2)
          omega
      · have := d3.mpr (ev.mp e)
        omega
    have hoff : ∀ c k, ¬ (c = 682 ∧ k = 0) → ¬ c = 726 → ¬ (700 ≤ c ∧ c ≤ 704) → s2 c k = σ c k := by
      intro c k h1 h2 h3
      rw [d4 c k h3]
      unfold upS
      rw [if_neg (by omega), if_neg (by omega)]
    refine op_finB hA (b := if z = 0 then 0 else 1) (s2 := s2) (m0 (up_a (by decide)) ?_) ?_ (fun _ => ?_) (fun a k ha => up_a (by omega)) (fun a k ha => hoff _ _ (by omega) (by omega) (by omega)) (Rel_sc (by omega) (WF_fr (fun a k ha => hoff _ _ (by omega) (by omega) (by omega)) H.1) (fun c k hk => hoff _ _ (by omega) (by omega) (by omega)) H)
    · refine b302_21 ?_
      rw [if_neg (show ¬ (1 : Int) = 0 by decide)]
      refine ⟨_, _, (d290 (by omega) (by omega) (by omega) (Slot_fr fr0 S) (Slot_fr fr0 S')).1 hf, ?_⟩
      rw [if_neg (show ¬ (1 : Int) = 0 by decide)]
      refine b302_45 ⟨_, _, d245, ?_⟩
      rw [if_pos rfl, if_neg (show ¬ (1 : Int) = 0 by decide)]
      exact ⟨_, _, d1, rfl⟩
    · rw [d4 _ _ (by omega), up_s]
    · rw [d4 _ _ (by omega), up_a (by decide), up_s, ezv]
      rcases hv with e | e <;> rw [e] <;> rfl
  · refine op_xB H (kx := 2) (b := 0) (by decide) (b402 (Or.inr (Or.inr ⟨_, b184 (Or.inl ⟨_, _, e230, hP, Or.inl ⟨_, _, f230, hQ, Or.inr ⟨_, _, c2 hf, rfl⟩⟩⟩), rfl⟩))) (m0 rfl ?_)
    refine b302_21 ?_
    rw [if_neg (show ¬ (1 : Int) = 0 by decide)]
    refine ⟨_, _, (d290 (by omega) (by omega) (by omega) S S').2 hf, ?_⟩
    rw [if_pos rfl]
    refine b302_45 ⟨_, _, d245, ?_⟩
    rw [if_neg (show ¬ (2 : Int) = 0 by decide), if_pos rfl]
end
-- DRAFT 84.join.lean
/-! join. -/
noncomputable section
def mt (p : Nat → Bool) (n : Nat) : Nat := ((List.range n).takeWhile p).length
theorem mt_le {p : Nat → Bool} {n : Nat} : mt p n ≤ n := by
  have := tw_len (l := List.range n) (p := p)
  rw [List.length_range] at this
  exact this
theorem mt_m {p : Nat → Bool} {n d : Nat} (h : d < mt p n) : p d = true := by
  have hl := mt_le (p := p) (n := n)
  obtain ⟨x, g1, g2⟩ := tw_a (p := p) (l := List.range n) d h
  rw [List.getElem?_range (by omega)] at g1
  cases g1
  exact g2
theorem mt_n {p : Nat → Bool} {n : Nat} (h : mt p n < n) : p (mt p n) = false := by
  obtain ⟨x, g1, g2⟩ := tw_b (p := p) (l := List.range n) (by rw [List.length_range]; exact h)
  have h2 : ((List.range n).takeWhile p).length < n := h
  rw [List.getElem?_range h2] at g1
  cases g1
  exact g2
def mn (a b : Nat) : Nat := if a < b then a else b
theorem mn_1 {a b : Nat} : mn a b ≤ a ∧ mn a b ≤ b ∧ (mn a b = a ∨ mn a b = b) := by
  unfold mn
  split <;> omega
/-- how many of a hunk's lines are equal at its beginning, and then at its end -/
def pt (O N : Nat → Int) (q : Nat × Nat × Nat × Nat) : Nat := mt (fun d => decide (O (q.1 + d) = N (q.2.2.1 + d))) (mn q.2.1 q.2.2.2)
def pu (O N : Nat → Int) (q : Nat × Nat × Nat × Nat) : Nat := mt (fun d => decide (O (q.1 + q.2.1 - 1 - d) = N (q.2.2.1 + q.2.2.2 - 1 - d))) (mn (q.2.1 - pt O N q) (q.2.2.2 - pt O N q))
def pe1 (q : Nat × Nat × Nat × Nat) (G : Nat → Int) (t u : Nat) : Nat → Int := fun x => if q.1 ≤ x ∧ x < q.1 + t then ((q.2.2.1 + (x - q.1) : Nat) : Int) else if q.1 + q.2.1 - u ≤ x ∧ x < q.1 + q.2.1 then ((q.2.2.1 + q.2.2.2 - (q.1 + q.2.1 - x) : Nat) : Int) else G x
def pe (O N : Nat → Int) (q : Nat × Nat × Nat × Nat) (G : Nat → Int) : Nat → Int := pe1 q G (pt O N q) (pu O N q)
theorem pt_b {O N : Nat → Int} {q : Nat × Nat × Nat × Nat} : pt O N q ≤ q.2.1 ∧ pt O N q ≤ q.2.2.2 ∧ (∀ d, d < pt O N q → O (q.1 + d) = N (q.2.2.1 + d)) ∧ (pt O N q < q.2.1 → pt O N q < q.2.2.2 → ¬ O (q.1 + pt O N q) = N (q.2.2.1 + pt O N q)) := by
  have h := mt_le (p := fun d => decide (O (q.1 + d) = N (q.2.2.1 + d))) (n := mn q.2.1 q.2.2.2)
  have m := mn_1 (a := q.2.1) (b := q.2.2.2)
  have e : mt (fun d => decide (O (q.1 + d) = N (q.2.2.1 + d))) (mn q.2.1 q.2.2.2) = pt O N q := rfl
  rw [e] at h
  refine ⟨by omega, by omega, fun d hd => ?_, fun h1 h2 => ?_⟩
  · rw [← e] at hd
    exact of_decide_eq_true (mt_m hd)
  · have z := mt_n (p := fun d => decide (O (q.1 + d) = N (q.2.2.1 + d))) (n := mn q.2.1 q.2.2.2) (by rw [e]; omega)
    rw [e] at z
    exact of_decide_eq_false z
theorem pu_b {O N : Nat → Int} {q : Nat × Nat × Nat × Nat} : pt O N q + pu O N q ≤ q.2.1 ∧ pt O N q + pu O N q ≤ q.2.2.2 ∧ (∀ d, d < pu O N q → O (q.1 + q.2.1 - 1 - d) = N (q.2.2.1 + q.2.2.2 - 1 - d)) ∧ (pt O N q + pu O N q < q.2.1 → pt O N q + pu O N q < q.2.2.2 → ¬ O (q.1 + q.2.1 - 1 - pu O N q) = N (q.2.2.1 + q.2.2.2 - 1 - pu O N q)) := by
  obtain ⟨b1, b2, -, -⟩ := pt_b (O := O) (N := N) (q := q)
  have h := mt_le (p := fun d => decide (O (q.1 + q.2.1 - 1 - d) = N (q.2.2.1 + q.2.2.2 - 1 - d))) (n := mn (q.2.1 - pt O N q) (q.2.2.2 - pt O N q))
  have m := mn_1 (a := q.2.1 - pt O N q) (b := q.2.2.2 - pt O N q)
  have e : mt (fun d => decide (O (q.1 + q.2.1 - 1 - d) = N (q.2.2.1 + q.2.2.2 - 1 - d))) (mn (q.2.1 - pt O N q) (q.2.2.2 - pt O N q)) = pu O N q := rfl
  rw [e] at h
  refine ⟨by omega, by omega, fun d hd => ?_, fun h1 h2 => ?_⟩
  · rw [← e] at hd
    exact of_decide_eq_true (mt_m hd)
  · have z := mt_n (p := fun d => decide (O (q.1 + q.2.1 - 1 - d) = N (q.2.2.1 + q.2.2.2 - 1 - d))) (n := mn (q.2.1 - pt O N q) (q.2.2.2 - pt O N q)) (by rw [e]; omega)
    rw [e] at z
    exact of_decide_eq_false z
/-- pairs in order, of equal lines -/
def GD (O N : Nat → Int) (nb na : Nat) (G : Nat → Int) : Prop := VF G nb na ∧ ∀ x, x < nb → ¬ G x = -1 → O x = N (G x).toNat
def HB (G : Nat → Int) (nb : Nat) (q : Nat × Nat × Nat × Nat) : Prop := ∀ x, x < nb → ¬ G x = -1 → (x < q.1 ∧ G x < (q.2.2.1 : Nat)) ∨ (q.1 + q.2.1 ≤ x ∧ ((q.2.2.1 + q.2.2.2 : Nat) : Int) ≤ G x)
def SR : List (Nat × Nat × Nat × Nat) → Prop
  | [] => True
  | q :: t => (∀ r, r ∈ t → q.1 + q.2.1 ≤ r.1 ∧ q.2.2.1 + q.2.2.2 ≤ r.2.2.1) ∧ SR t
theorem pe_c {O N G : Nat → Int} {q : Nat × Nat × Nat × Nat} (x : Nat) : (∃ d, d < pt O N q ∧ x = q.1 + d ∧ pe O N q G x = ((q.2.2.1 + d : Nat) : Int)) ∨ (∃ d, d < pu O N q ∧ x = q.1 + q.2.1 - 1 - d ∧ pe O N q G x = ((q.2.2.1 + q.2.2.2 - 1 - d : Nat) : Int)) ∨ (¬ (q.1 ≤ x ∧ x < q.1 + pt O N q) ∧ ¬ (q.1 + q.2.1 - pu O N q ≤ x ∧ x < q.1 + q.2.1) ∧ pe O N q G x = G x) := by
  obtain ⟨b1, b2, -, -⟩ := pt_b (O := O) (N := N) (q := q)
  obtain ⟨c1, c2, -, -⟩ := pu_b (O := O) (N := N) (q := q)
  unfold pe pe1
  by_cases h1 : q.1 ≤ x ∧ x < q.1 + pt O N q
  · rw [if_pos h1]
    refine Or.inl ⟨x - q.1, by omega, by omega, rfl⟩
  · rw [if_neg h1]
    by_cases h2 : q.1 + q.2.1 - pu O N q ≤ x ∧ x < q.1 + q.2.1
    · rw [if_pos h2]
      refine Or.inr (Or.inl ⟨q.1 + q.2.1 - 1 - x, by omega, by omega, by congr 1; omega⟩)
    · rw [if_neg h2]
      exact Or.inr (Or.inr ⟨h1, h2, rfl⟩)
theorem pe_gd {O N G : Nat → Int} {nb na : Nat} {q : Nat × Nat × Nat × Nat} (H : GD O N nb na G) (B : HB G nb q) (hb : q.1 + q.2.1 ≤ nb) (ha : q.2.2.1 + q.2.2.2 ≤ na) : GD O N nb na (pe O N q G) := by
  obtain ⟨b1, b2, b3, -⟩ := pt_b (O := O) (N := N) (q := q)
  obtain ⟨c1, c2, c3, -⟩ := pu_b (O := O) (N := N) (q := q)
  refine ⟨⟨fun x hx => ?_, fun x x' h1 h2 h3 h4 => ?_⟩, fun x hx hne => ?_⟩
  · rcases pe_c (O := O) (N := N) (G := G) (q := q) x with ⟨d, e1, e2, e3⟩ | ⟨d, e1, e2, e3⟩ | ⟨e1, e2, e3⟩
    · rw [e3]; omega
    · rw [e3]; omega
    · rw [e3]; exact H.1.1 x hx
  · rcases pe_c (O := O) (N := N) (G := G) (q := q) x with ⟨d, e1, e2, e3⟩ | ⟨d, e1, e2, e3⟩ | ⟨e1, e2, e3⟩
    · rcases pe_c (O := O) (N := N) (G := G) (q := q) x' with ⟨d', f1, f2, f3⟩ | ⟨d', f1, f2, f3⟩ | ⟨f1, f2, f3⟩
      · rw [e3, f3]; omega
      · rw [e3, f3]; omega
      · rw [f3] at h4
        rw [e3, f3]
        rcases B x' h2 h4 with y | y <;> omega
    · rcases pe_c (O := O) (N := N) (G := G) (q := q) x' with ⟨d', f1, f2, f3⟩ | ⟨d', f1, f2, f3⟩ | ⟨f1, f2, f3⟩
      · exfalso; omega
      · rw [e3, f3]; omega
      · rw [f3] at h4
        rw [e3, f3]
        rcases B x' h2 h4 with y | y <;> omega
    · rw [e3] at h3
      rcases pe_c (O := O) (N := N) (G := G) (q := q) x' with ⟨d', f1, f2, f3⟩ | ⟨d', f1, f2, f3⟩ | ⟨f1, f2, f3⟩
      · rw [e3, f3]
        rcases B x (by omega) h3 with y | y <;> omega
      · rw [e3, f3]
        rcases B x (by omega) h3 with y | y <;> omega
      · rw [f3] at h4
        rw [e3, f3]
        exact H.1.2 x x' h1 h2 h3 h4
  · rcases pe_c (O := O) (N := N) (G := G) (q := q) x with ⟨d, e1, e2, e3⟩ | ⟨d, e1, e2, e3⟩ | ⟨e1, e2, e3⟩
    · rw [e3, e2, b3 d e1]
      congr 1
    · rw [e3, e2, c3 d e1]
      congr 1
    · rw [e3] at hne ⊢
      exact H.2 x hx hne
theorem pe_hb {O N G : Nat → Int} {nb : Nat} {q r : Nat × Nat × Nat × Nat} (B : HB G nb r) (h : q.1 + q.2.1 ≤ r.1 ∧ q.2.2.1 + q.2.2.2 ≤ r.2.2.1) : HB (pe O N q G) nb r := by
  obtain ⟨b1, b2, b3, -⟩ := pt_b (O := O) (N := N) (q := q)
  obtain ⟨c1, c2, c3, -⟩ := pu_b (O := O) (N := N) (q := q)
  intro x hx hne
  rcases pe_c (O := O) (N := N) (G := G) (q := q) x with ⟨d, e1, e2, e3⟩ | ⟨d, e1, e2, e3⟩ | ⟨e1, e2, e3⟩
  · rw [e3]; left; omega
  · rw [e3]; left; omega
  · rw [e3] at hne ⊢
    exact B x hx hne
theorem pes_gd {O N : Nat → Int} {nb na : Nat} : ∀ (l : List (Nat × Nat × Nat × Nat)) (G : Nat → Int), GD O N nb na G → SR l → (∀ q, q ∈ l → HB G nb q ∧ q.1 + q.2.1 ≤ nb ∧ q.2.2.1 + q.2.2.2 ≤ na) → GD O N nb na (l.foldl (fun G q => pe O N q G) G) := by
  intro l
  induction l with
  | nil => intro G H _ _; exact H
  | cons q t ih =>
    intro G H S B
    rw [List.foldl_cons]
    obtain ⟨x1, x2, x3⟩ := B q List.mem_cons_self
    exact ih _ (pe_gd H x1 x2 x3) S.2 (fun r hr => ⟨pe_hb (B r (List.mem_cons_of_mem _ hr)).1 (S.1 r hr), (B r (List.mem_cons_of_mem _ hr)).2⟩)
theorem hkF_SR {f : Nat → Int} {nb na : Nat} (V : VF f nb na) : ∀ (w i j : Nat), VI f nb na i j → (∀ k, k < i → k < nb → ¬ f k = -1 → f k < (j : Int)) → SR (hkF f nb na w i j) ∧ ∀ q, q ∈ hkF f nb na w i j → HB f nb q := by
  intro w
  induction w with
  | zero =>
    intro i j hi hj
    exact ⟨trivial, fun q hq => by simp [hkF] at hq⟩
  | succ w ih =>
    intro i j hi hj
    rw [hkF_s]
    by_cases h1 : i < nb ∨ j < na
    · rw [if_pos h1]
      by_cases h2 : i < nb ∧ f i = (j : Int)
      · rw [if_pos h2]
        exact ih _ _ (VI_s V hi h2.1 h2.2) (fun k k1 k2 k3 => by
          by_cases y : k = i
          · rw [y, h2.2]; omega
          · have := hj k (by omega) k2 k3
            omega)
      · rw [if_neg h2]
        obtain ⟨u1, u2, u3, u4⟩ := VI_h V hi h1 h2
        have n1 := nx_ge (f := f) (nb := nb) (i := i)
        obtain ⟨g1, g2⟩ := ih _ _ u1 (fun k k1 k2 k3 => by
          by_cases y : k < i
          · have := hj k y k2 k3
            omega
          · exact absurd (nx_m (by omega) k1) k3)
        refine ⟨⟨fun r hr => ?_, g1⟩, fun q hq => ?_⟩
        · obtain ⟨n, hn⟩ := List.getElem?_of_mem hr
          have := hkF_bd V _ _ _ u1 n r hn
          dsimp only
          omega
        · rcases List.mem_cons.mp hq with e | e
          · rw [e]
            intro x hx hne
            dsimp only
            by_cases y : x < i
            · left
              exact ⟨y, hj x y hx hne⟩
            · by_cases y2 : x < nx f nb i
              · exact absurd (nx_m (by omega) y2) hne
              · right
                have := u1.2.2 x (by omega) hx hne
                omega
          · exact g2 q e
    · rw [if_neg h1]
      exact ⟨trivial, fun q hq => by simp at hq⟩
/-- the pairs of two patches, one behind the other -/
def fc (F F' : Nat → Int) : Nat → Int := fun i => if F i = -1 then -1 else F' (F i).toNat
theorem fc_VF {F F' : Nat → Int} {nb na na' : Nat} (V : VF F nb na) (V' : VF F' na na') : VF (fc F F') nb na' := by
  refine ⟨fun i hi => ?_, fun i i' h1 h2 h3 h4 => ?_⟩
  · unfold fc
    by_cases e : F i = -1
    · rw [if_pos e]; exact Or.inl rfl
    · rw [if_neg e]
      rcases V.1 i hi with z | z
      · exact absurd z e
      · exact V'.1 _ (by omega)
  · unfold fc at h3 h4 ⊢
    by_cases e : F i = -1
    · rw [if_pos e] at h3; exact absurd rfl h3
    by_cases e' : F i' = -1
    · rw [if_pos e'] at h4; exact absurd rfl h4
    rw [if_neg e] at h3 ⊢
    rw [if_neg e'] at h4 ⊢
    have z := V.2 i i' h1 h2 e e'
    rcases V.1 i (by omega) with y | y
    · exact absurd y e
    rcases V.1 i' h2 with y' | y'
    · exact absurd y' e'
    exact V'.2 _ _ (by omega) (by omega) h3 h4
theorem fc_GD {O N F O' N' F' : Nat → Int} {nb na na' : Nat} (V : VF F nb na) (V' : VF F' na na') (e1 : ∀ i, i < nb → ¬ F i = -1 → O i = N (F i).toNat) (e2 : ∀ i, i < na → ¬ F' i = -1 → O' i = N' (F' i).toNat) (e3 : ∀ k, k < na → N k = O' k) : GD O N' nb na' (fc F F') := by
  refine ⟨fc_VF V V', fun x hx hne => ?_⟩
  unfold fc at hne ⊢
  by_cases e : F x = -1
  · rw [if_pos e] at hne; exact absurd rfl hne
  · rw [if_neg e] at hne ⊢
    rcases V.1 x hx with y | y
    · exact absurd y e
    rw [e1 x hx e, e3 _ (by omega), e2 _ (by omega) hne]
/-- the pairs of the joined patch -/
def jp (O N' F F' : Nat → Int) (nb na' : Nat) : Nat → Int := (hks (fc F F') nb na').foldl (fun G q => pe O N' q G) (fc F F')
theorem jp_GD {O N F O' N' F' : Nat → Int} {nb na na' : Nat} (V : VF F nb na) (V' : VF F' na na') (e1 : ∀ i, i < nb → ¬ F i = -1 → O i = N (F i).toNat) (e2 : ∀ i, i < na → ¬ F' i = -1 → O' i = N' (F' i).toNat) (e3 : ∀ k, k < na → N k = O' k) : GD O N' nb na' (jp O N' F F' nb na') := by
  have W := fc_VF V V'
  obtain ⟨g1, g2⟩ := hkF_SR W (nb + na') 0 0 (VI_0 W) (fun k hk => absurd hk (Nat.not_lt_zero k))
  refine pes_gd _ _ (fc_GD V V' e1 e2 e3) g1 (fun q hq => ⟨g2 q hq, ?_⟩)
  obtain ⟨n, hn⟩ := List.getElem?_of_mem hq
  exact hks_bd W hn
/-- the model's side: one hunk -/
theorem l295a {s n h nb na : Nat} {q : Nat × Nat × Nat × Nat} {O N G : Nat → Int} {d1 d2 : Option AV} (hs : s < 44) (h1 : nb ≤ 100) (h2 : na ≤ 100) (hb : q.1 + q.2.1 ≤ nb) (ha : q.2.2.1 + q.2.2.2 ≤ na) : ∀ (d k : Nat) (σ : Sg), k + d = pt O N q → (∀ i, i < nb → σ 685 (100 * s + i) = O i) → (∀ i, i < na → σ 686 (100 * s + i) = N i) → (∀ x, x < nb → σ 687 (100 * s + x) = pe1 q G k 0 x) → ∃ σ', (∀ {o : Rs}, C295_284 d1 d2 s n h ((100 * s + (q.1 + pt O N q) : Nat) : Int) ((100 * s + (q.1 + q.2.1) : Nat) : Int) ((100 * s + (q.2.2.1 + pt O N q) : Nat) : Int) ((100 * s + (q.2.2.1 + q.2.2.2) : Nat) : Int) σ' o → C295_230 d1 d2 s n h ((100 * s + (q.1 + k) : Nat) : Int) ((100 * s + (q.1 + q.2.1) : Nat) : Int) ((100 * s + (q.2.2.1 + k) : Nat) : Int) ((100 * s + (q.2.2.1 + q.2.2.2) : Nat) : Int) σ o) ∧ (∀ x, x < nb → σ' 687 (100 * s + x) = pe1 q G (pt O N q) 0 x) ∧ ∀ c x, ¬ (c = 687 ∧ 100 * s ≤ x ∧ x < 100 * s + 100) → σ' c x = σ c x := by
  obtain ⟨b1, b2, b3, b4⟩ := pt_b (O := O) (N := N) (q := q)
  intro d
  induction d with
  | zero =>
    intro k σ hk hO hN hG
    have e : k = pt O N q := by omega
    subst e
    refine ⟨σ, fun {o} hh => b295_230 ?_, hG, fun _ _ _ => rfl⟩
    by_cases y1 : pt O N q < q.2.1
    · rw [if_pos (by omega)]
      by_cases y2 : pt O N q < q.2.2.2
      · rw [if_pos (by omega)]
        refine ⟨by omega, by omega, ?_⟩
        rw [show ((100 * s + (q.1 + pt O N q) : Nat) : Int).toNat = 100 * s + (q.1 + pt O N q) by omega, show ((100 * s + (q.2.2.1 + pt O N q) : Nat) : Int).toNat = 100 * s + (q.2.2.1 + pt O N q) by omega, hO _ (by omega), hN _ (by omega), if_neg (b4 y1 y2)]
        exact hh
      · rw [if_neg (by omega)]
        exact hh
    · rw [if_neg (by omega)]
      exact hh
  | succ d ih =>
    intro k σ hk hO hN hG
    obtain ⟨σ', a1, a2, a3⟩ := ih (k + 1) (upS σ 687 (100 * s + (q.1 + k)) ((q.2.2.1 + k : Nat) : Int)) (by omega) (fun i hi => by rw [up_a (by decide)]; exact hO i hi) (fun i hi => by rw [up_a (by decide)]; exact hN i hi) (fun x hx => by
      by_cases e : x = q.1 + k
      · rw [e, up_s]
        unfold pe1
        rw [if_pos (by omega)]
        congr 1
        omega
      · rw [up_k (by omega), hG x hx]
        unfold pe1
        by_cases y : q.1 ≤ x ∧ x < q.1 + k
        · rw [if_pos y, if_pos (by omega)]
        · rw [if_neg y, if_neg (show ¬ (q.1 ≤ x ∧ x < q.1 + (k + 1)) by omega)])
    refine ⟨σ', fun {o} hh => b295_230 ?_, a2, fun c x hx => by
      rw [a3 c x hx]
      unfold upS
      rw [if_neg (by omega)]⟩
    rw [if_pos (by omega), if_pos (by omega), show ((100 * s + (q.1 + k) : Nat) : Int).toNat = 100 * s + (q.1 + k) by omega, show ((100 * s + (q.2.2.1 + k) : Nat) : Int).toNat = 100 * s + (q.2.2.1 + k) by omega, hO _ (by omega), hN _ (by omega), if_pos (b3 k (by omega)), show ((100 * s + (q.2.2.1 + k) : Nat) : Int) - 100 * (s : Int) = ((q.2.2.1 + k : Nat) : Int) by omega]
    refine ⟨by omega, by omega, by omega, by omega, by omega, by omega, by omega, ?_⟩
    have z := a1 hh
    rw [show ((100 * s + (q.1 + (k + 1)) : Nat) : Int) = ((100 * s + (q.1 + k) : Nat) : Int) + 1 by omega, show ((100 * s + (q.2.2.1 + (k + 1)) : Nat) : Int) = ((100 * s + (q.2.2.1 + k) : Nat) : Int) + 1 by omega] at z
    exact z
theorem l295b {s n h nb na : Nat} {q : Nat × Nat × Nat × Nat} {O N G : Nat → Int} {d1 d2 : Option AV} (hs : s < 44) (hn : n < 200) (hh0 : h < n) (h1 : nb ≤ 100) (h2 : na ≤ 100) (hb : q.1 + q.2.1 ≤ nb) (ha : q.2.2.1 + q.2.2.2 ≤ na) : ∀ (d k : Nat) (σ : Sg), k + d = pu O N q → (∀ i, i < nb → σ 685 (100 * s + i) = O i) → (∀ i, i < na → σ 686 (100 * s + i) = N i) → (∀ x, x < nb → σ 687 (100 * s + x) = pe1 q G (pt O N q) k x) → ∃ σ', (∀ {o : Rs}, (∀ d6 d7 d8 d9, C295_171 d1 d2 s n ((h + 1 : Nat) : Int) d6 d7 d8 d9 σ' o) → C295_284 d1 d2 s n h ((100 * s + (q.1 + pt O N q) : Nat) : Int) ((100 * s + (q.1 + q.2.1 - k) : Nat) : Int) ((100 * s + (q.2.2.1 + pt O N q) : Nat) : Int) ((100 * s + (q.2.2.1 + q.2.2.2 - k) : Nat) : Int) σ o) ∧ (∀ x, x < nb → σ' 687 (100 * s + x) = pe O N q G x) ∧ ∀ c x, ¬ (c = 687 ∧ 100 * s ≤ x ∧ x < 100 * s + 100) → σ' c x = σ c x := by
  obtain ⟨b1, b2, b3, b4⟩ := pu_b (O := O) (N := N) (q := q)
  intro d
  induction d with
  | zero =>
    intro k σ hk hO hN hG
    have e : k = pu O N q := by omega
    subst e
    refine ⟨σ, fun {o} hh => b295_284 ?_, hG, fun _ _ _ => rfl⟩
    have fin : ∀ d6 d7 d8 d9, C295_342 d1 d2 s n h d6 d7 d8 d9 σ o := fun d6 d7 d8 d9 => b295_342 ⟨by omega, by
      rw [show (h : Int) + 1 = ((h + 1 : Nat) : Int) by omega]
      exact hh d6 d7 d8 d9⟩
    by_cases y1 : pt O N q + pu O N q < q.2.1
    · rw [if_pos (by omega)]
      by_cases y2 : pt O N q + pu O N q < q.2.2.2
      · rw [if_pos (by omega)]
        refine ⟨by omega, by omega, by omega, by omega, ?_⟩
        rw [show (((100 * s + (q.1 + q.2.1 - pu O N q) : Nat) : Int) - 1).toNat = 100 * s + (q.1 + q.2.1 - 1 - pu O N q) by omega, show (((100 * s + (q.2.2.1 + q.2.2.2 - pu O N q) : Nat) : Int) - 1).toNat = 100 * s + (q.2.2.1 + q.2.2.2 - 1 - pu O N q) by omega, hO _ (by omega), hN _ (by omega), if_neg (b4 y1 y2)]
        exact fin _ _ _ _
      · rw [if_neg (by omega)]
        exact fin _ _ _ _
    · rw [if_neg (by omega)]
      exact fin _ _ _ _
  | succ d ih =>
    intro k σ hk hO hN hG
    obtain ⟨σ', a1, a2, a3⟩ := ih (k + 1) (upS σ 687 (100 * s + (q.1 + q.2.1 - 1 - k)) ((q.2.2.1 + q.2.2.2 - 1 - k : Nat) : Int)) (by omega) (fun i hi => by rw [up_a (by decide)]; exact hO i hi) (fun i hi => by rw [up_a (by decide)]; exact hN i hi) (fun x hx => by
      by_cases e : x = q.1 + q.2.1 - 1 - k
      · rw [e, up_s]
        unfold pe1
        rw [if_neg (by omega), if_pos (by omega)]
        congr 1
        omega
      · rw [up_k (by omega), hG x hx]
        unfold pe1
        by_cases y : q.1 ≤ x ∧ x < q.1 + pt O N q
        · rw [if_pos y, if_pos y]
        · rw [if_neg y, if_neg y]
          by_cases y2 : q.1 + q.2.1 - k ≤ x ∧ x < q.1 + q.2.1
          · rw [if_pos y2, if_pos (by omega)]
          · rw [if_neg y2, if_neg (show ¬ (q.1 + q.2.1 - (k + 1) ≤ x ∧ x < q.1 + q.2.1) by omega)])
    refine ⟨σ', fun {o} hh => b295_284 ?_, a2, fun c x hx => by
      rw [a3 c x hx]
      unfold upS
      rw [if_neg (by omega)]⟩
    have e1 : ((100 * s + (q.1 + q.2.1 - k) : Nat) : Int) - 1 = ((100 * s + (q.1 + q.2.1 - 1 - k) : Nat) : Int) := by omega
    have e2 : ((100 * s + (q.2.2.1 + q.2.2.2 - k) : Nat) : Int) - 1 = ((100 * s + (q.2.2.1 + q.2.2.2 - 1 - k) : Nat) : Int) := by omega
    have e3 : ((100 * s + (q.1 + q.2.1 - k) : Nat) : Int) + (-1) = ((100 * s + (q.1 + q.2.1 - 1 - k) : Nat) : Int) := by omega
    have e4 : ((100 * s + (q.2.2.1 + q.2.2.2 - k) : Nat) : Int) + (-1) = ((100 * s + (q.2.2.1 + q.2.2.2 - 1 - k) : Nat) : Int) := by omega
    rw [if_pos (by omega), if_pos (by omega), e1, e2, e3, e4, show ((100 * s + (q.1 + q.2.1 - 1 - k) : Nat) : Int).toNat = 100 * s + (q.1 + q.2.1 - 1 - k) by omega, show ((100 * s + (q.2.2.1 + q.2.2.2 - 1 - k) : Nat) : Int).toNat = 100 * s + (q.2.2.1 + q.2.2.2 - 1 - k) by omega, hO _ (by omega), hN _ (by omega), if_pos (b3 k (by omega)), show ((100 * s + (q.2.2.1 + q.2.2.2 - 1 - k) : Nat) : Int) - 100 * (s : Int) = ((q.2.2.1 + q.2.2.2 - 1 - k : Nat) : Int) by omega]
    refine ⟨by omega, by omega, by omega, by omega, by omega, by omega, by omega, by omega, by omega, ?_⟩
    have z := a1 hh
    rw [show q.1 + q.2.1 - (k + 1) = q.1 + q.2.1 - 1 - k by omega, show q.2.2.1 + q.2.2.2 - (k + 1) = q.2.2.1 + q.2.2.2 - 1 - k by omega] at z
    exact z
theorem pe1_0 {q : Nat × Nat × Nat × Nat} {G : Nat → Int} (x : Nat) : pe1 q G 0 0 x = G x := by
  unfold pe1
  rw [if_neg (by omega), if_neg (by omega)]
/-- all hunks -/
theorem l295c {s nb na : Nat} {l : List (Nat × Nat × Nat × Nat)} {O N : Nat → Int} {d1 d2 : Option AV} (hs : s < 44) (h1 : nb ≤ 100) (h2 : na ≤ 100) (hl : l.length ≤ 120) (hbd : ∀ q, q ∈ l → q.1 + q.2.1 ≤ nb ∧ q.2.2.1 + q.2.2.2 ≤ na) : ∀ (d h : Nat) (G : Nat → Int) (σ : Sg), h + d = l.length → HK σ 0 0 l → (∀ i, i < nb → σ 685 (100 * s + i) = O i) → (∀ i, i < na → σ 686 (100 * s + i) = N i) → (∀ x, x < nb → σ 687 (100 * s + x) = G x) → ∃ σ', (∀ d6 d7 d8 d9, C295_171 d1 d2 s (l.length : Nat) h d6 d7 d8 d9 σ (rV σ')) ∧ (∀ x, x < nb → σ' 687 (100 * s + x) = ((l.drop h).foldl (fun G q => pe O N q G) G) x) ∧ ∀ c x, ¬ (c = 687 ∧ 100 * s ≤ x ∧ x < 100 * s + 100) → σ' c x = σ c x := by
  intro d
  induction d with
  | zero =>
    intro h G σ hh hK hO hN hG
    refine ⟨σ, fun d6 d7 d8 d9 => b295_171 ?_, fun x hx => ?_, fun _ _ _ => rfl⟩
    · rw [if_neg (by omega)]
    · rw [List.drop_eq_nil_of_le (by omega)]
      exact hG x hx
  | succ d ih =>
    intro h G σ hh hK hO hN hG
    have hlt : h < l.length := by omega
    obtain ⟨q, hq⟩ : ∃ q, q = l[h] := ⟨_, rfl⟩
    have hq2 : l[h]? = some q := by rw [hq]; exact List.getElem?_eq_getElem hlt
    obtain ⟨v0, v1, v2, v3⟩ := hK h q hq2
    rw [show 128 * 0 + (0 + h) = h by omega] at v0 v1 v2 v3
    obtain ⟨b1, b2⟩ := hbd q (by rw [hq]; exact List.getElem_mem hlt)
    obtain ⟨s1, a1, a2, a3⟩ := l295a (n := l.length) (h := h) (d1 := d1) (d2 := d2) (G := G) hs h1 h2 b1 b2 (pt O N q) 0 σ (by omega) hO hN (fun x hx => by rw [pe1_0]; exact hG x hx)
    obtain ⟨s2, c1, c2, c3⟩ := l295b (n := l.length) (h := h) (d1 := d1) (d2 := d2) (G := G) (O := O) (N := N) hs (by omega) hlt h1 h2 b1 b2 (pu O N q) 0 s1 (by omega) (fun i hi => by rw [a3 _ _ (by omega)]; exact hO i hi) (fun i hi => by rw [a3 _ _ (by omega)]; exact hN i hi) a2
    obtain ⟨σ', e1, e2, e3⟩ := ih (h + 1) (pe O N q G) s2 (by omega) (fun h' q' hq' => by
      have := hK h' q' hq'
      rw [c3 _ _ (by omega), c3 _ _ (by omega), c3 _ _ (by omega), c3 _ _ (by omega), a3 _ _ (by omega), a3 _ _ (by omega), a3 _ _ (by omega), a3 _ _ (by omega)]
      exact this) (fun i hi => by rw [c3 _ _ (by omega), a3 _ _ (by omega)]; exact hO i hi) (fun i hi => by rw [c3 _ _ (by omega), a3 _ _ (by omega)]; exact hN i hi) c2
    refine ⟨σ', fun d6 d7 d8 d9 => b295_171 ?_, fun x hx => ?_, fun c x hx => by rw [e3 c x hx, c3 c x hx, a3 c x hx]⟩
    · rw [if_pos (by omega), show ((h : Nat) : Int).toNat = h by omega, v0, v1, v2, v3]
      refine ⟨by omega, by omega, by omega, by omega, by omega, by omega, by omega, by omega, by omega, by omega, ?_⟩
      have z := a1 (c1 e1)
      rw [Nat.add_zero, Nat.add_zero] at z
      rw [show 100 * (s : Int) + ((q.1 : Nat) : Int) = ((100 * s + q.1 : Nat) : Int) by omega, show ((100 * s + q.1 : Nat) : Int) + ((q.2.1 : Nat) : Int) = ((100 * s + (q.1 + q.2.1) : Nat) : Int) by omega, show 100 * (s : Int) + ((q.2.2.1 : Nat) : Int) = ((100 * s + q.2.2.1 : Nat) : Int) by omega, show ((100 * s + q.2.2.1 : Nat) : Int) + ((q.2.2.2 : Nat) : Int) = ((100 * s + (q.2.2.1 + q.2.2.2) : Nat) : Int) by omega]
      exact z
    · rw [e2 x hx, List.drop_eq_getElem_cons hlt, List.foldl_cons, ← hq]
/-- the texts and the first pairs -/
theorem l295e {t p na' : Nat} {N' : Nat → Int} {d1 : Option AV} (ht : t < 44) (hp : p < 44) (htp : ¬ t = p) (h1 : na' ≤ 100) {d6 d7 d8 d9 : Option AV} : ∀ (d i : Nat) (σ : Sg), i + d = na' → σ 689 p = (na' : Nat) → (∀ k, k < na' → σ 686 (100 * t + k) = N' k) → (∀ k, k < i → σ 686 (100 * p + k) = N' k) → ∃ σ', (∀ {o : Rs}, (∃ (v10 : Int) (s9 : Sg), Dd 280 [vA 682, vI p, vI 0] σ' (rI v10 s9) ∧ C295_171 d1 (some (vI t)) p v10 0 d6 d7 d8 d9 s9 o) → ∀ d5, C295_119 d1 t p i d5 d6 d7 d8 d9 σ o) ∧ (∀ k, k < na' → σ' 686 (100 * p + k) = N' k) ∧ ∀ c x, ¬ (c = 686 ∧ 100 * p ≤ x ∧ x < 100 * p + 100) → σ' c x = σ c x := by
  intro d
  induction d with
  | zero =>
    intro i σ hi hm hN h0
    refine ⟨σ, fun {o} hh d5 => b295_119 ⟨by omega, ?_⟩, fun k hk => h0 k (by omega), fun _ _ _ => rfl⟩
    rw [show ((p : Nat) : Int).toNat = p by omega, if_neg (by omega)]
    exact hh
  | succ d ih =>
    intro i σ hi hm hN h0
    have e1 : ((100 * (p : Int)) + (i : Int)).toNat = 100 * p + i := by omega
    have e2 : ((100 * (t : Int)) + (i : Int)).toNat = 100 * t + i := by omega
    obtain ⟨σ', a1, a2, a3⟩ := ih (i + 1) (upS σ 686 (100 * p + i) (σ 686 (100 * t + i))) (by omega) (by rw [up_a (by decide)]; exact hm) (fun k hk => by rw [up_k (by omega)]; exact hN k hk) (fun k hk => by
      by_cases e : k = i
      · rw [e, up_s]; exact hN i (by omega)
      · rw [up_k (by omega)]; exact h0 k (by omega))
    refine ⟨σ', fun {o} hh d5 => b295_119 ⟨by omega, ?_⟩, a2, fun c x hx => by
      rw [a3 c x hx]
      unfold upS
      rw [if_neg (by omega)]⟩
    have z := a1 hh d5
    rw [show ((p : Nat) : Int).toNat = p by omega, if_pos (by omega), e1, e2]
    rw [show (((i + 1 : Nat)) : Int) = (i : Int) + 1 by omega] at z
    exact ⟨by omega, by omega, by omega, by omega, by omega, by omega, by omega, z⟩
theorem l295d {s t p nb na na' : Nat} {O F F' : Nat → Int} (hs : s < 44) (ht : t < 44) (hp : p < 44) (hsp : ¬ s = p) (htp : ¬ t = p) (h1 : nb ≤ 100) (h3 : na ≤ 100) (V : VF F nb na) {d6 d7 d8 d9 : Option AV} : ∀ (d i : Nat) (d5 : Option AV) (σ : Sg), i + d = nb → σ 688 p = (nb : Nat) → (∀ k, k < nb → σ 685 (100 * s + k) = O k) → (∀ k, k < nb → σ 687 (100 * s + k) = F k) → (∀ k, k < na → σ 687 (100 * t + k) = F' k) → (∀ k, k < i → σ 685 (100 * p + k) = O k ∧ σ 687 (100 * p + k) = fc F F' k) → ∃ σ', (∀ {o : Rs}, (∀ d5, C295_119 (some (vI s)) t p 0 d5 d6 d7 d8 d9 σ' o) → C295_27 s t p i d5 d6 d7 d8 d9 σ o) ∧ (∀ k, k < nb → σ' 685 (100 * p + k) = O k ∧ σ' 687 (100 * p + k) = fc F F' k) ∧ ∀ c x, ¬ ((c = 685 ∨ c = 687) ∧ 100 * p ≤ x ∧ x < 100 * p + 100) → σ' c x = σ c x := by
  intro d
  induction d with
  | zero =>
    intro i d5 σ hi hn hO hF hF' h0
    refine ⟨σ, fun {o} hh => b295_27 ⟨by omega, ?_⟩, fun k hk => h0 k (by omega), fun _ _ _ => rfl⟩
    rw [show ((p : Nat) : Int).toNat = p by omega, if_neg (by omega)]
    exact hh _
  | succ d ih =>
    intro i d5 σ hi hn hO hF hF' h0
    have e1 : ((100 * (p : Int)) + (i : Int)).toNat = 100 * p + i := by omega
    have e2 : ((100 * (s : Int)) + (i : Int)).toNat = 100 * s + i := by omega
    have g : ∀ v c x, ¬ ((c = 685 ∨ c = 687) ∧ x = 100 * p + i) → upS (upS σ 685 (100 * p + i) (σ 685 (100 * s + i))) 687 (100 * p + i) v c x = σ c x := by
      intro v c x hx
      unfold upS
      rw [if_neg (by omega), if_neg (by omega)]
    obtain ⟨σ', a1, a2, a3⟩ := ih (i + 1) (some (vI (F i))) (upS (upS σ 685 (100 * p + i) (σ 685 (100 * s + i))) 687 (100 * p + i) (fc F F' i)) (by omega) (by rw [g _ _ _ (by omega)]; exact hn) (fun k hk => by rw [g _ _ _ (by omega)]; exact hO k hk) (fun k hk => by rw [g _ _ _ (by omega)]; exact hF k hk) (fun k hk => by rw [g _ _ _ (by omega)]; exact hF' k hk) (fun k hk => by
      by_cases e : k = i
      · rw [e, up_s, up_a (by decide), up_s]
        exact ⟨hO i (by omega), rfl⟩
      · rw [g _ _ _ (by omega), g _ _ _ (by omega)]
        exact h0 k (by omega))
    have hv : (if F i = -1 then (-1 : Int) else (upS σ 685 (100 * p + i) (σ 685 (100 * s + i))) 687 (100 * (t : Int) + F i).toNat) = fc F F' i := by
      unfold fc
      by_cases e : F i = -1
      · rw [if_pos e, if_pos e]
      · rcases V.1 i (by omega) with z | z
        · exact absurd z e
        · rw [if_neg e, if_neg e, up_a (by decide), show (100 * (t : Int) + F i).toNat = 100 * t + (F i).toNat by omega, hF' _ (by omega)]
    have vb := V.1 i (by omega)
    refine ⟨σ', fun {o} hh => b295_27 ⟨by omega, ?_⟩, a2, fun c x hx => by rw [a3 c x hx, g _ c x (by omega)]⟩
    have z := a1 hh
    rw [show ((p : Nat) : Int).toNat = p by omega, if_pos (by omega), e1, e2, hF i (by omega), hv]
    refine ⟨by omega, by omega, by omega, by omega, by omega, by omega, by omega, by omega, by omega, by omega, by omega, fun _ => by omega, fun _ => by omega, fun _ => by omega, b295_109 ⟨by omega, by omega, ?_⟩⟩
    rw [e1, show (i : Int) + 1 = ((i + 1 : Nat) : Int) by omega]
    exact z
theorem d295 {s t p nb na na' : Nat} {O N F O' N' F' : Nat → Int} {σ : Sg} (hs : s < 44) (ht : t < 44) (hp : p < 44) (hsp : ¬ s = p) (htp : ¬ t = p) (h1 : nb ≤ 100) (h2 : na ≤ 100) (h3 : na' ≤ 100) (V : VF F nb na) (V' : VF F' na na') (S : Slot σ s nb na O N F) (S' : Slot σ t na na' O' N' F') : ∃ σ', Dd 295 [vA 682, vI s, vI t, vI p] σ (rV σ') ∧ Slot σ' p nb na' O N' (jp O N' F F' nb na') ∧ ∀ c x, ¬ (685 ≤ c ∧ c ≤ 687 ∧ 100 * p ≤ x ∧ x < 100 * p + 100) → ¬ ((c = 688 ∨ c = 689) ∧ x = p) → ¬ (700 ≤ c ∧ c ≤ 704) → σ' c x = σ c x := by
  obtain ⟨s1, s2, s3, s4, s5⟩ := S
  obtain ⟨t1, t2, t3, t4, t5⟩ := S'
  have g : ∀ c x, ¬ ((c = 688 ∨ c = 689) ∧ x = p) → upS (upS σ 688 p (σ 688 s)) 689 p ((upS σ 688 p (σ 688 s)) 689 t) c x = σ c x := by
    intro c x hx
    unfold upS
    rw [if_neg (by omega), if_neg (by omega)]
  have n1 : upS (upS σ 688 p (σ 688 s)) 689 p ((upS σ 688 p (σ 688 s)) 689 t) 688 p = (nb : Nat) := by rw [up_a (by decide), up_s]; exact s1
  have n2 : upS (upS σ 688 p (σ 688 s)) 689 p ((upS σ 688 p (σ 688 s)) 689 t) 689 p = (na' : Nat) := by rw [up_s, up_a (by decide)]; exact t2
  obtain ⟨x1, a1, a2, a3⟩ := l295d (O := O) (F := F) (F' := F') (na' := na') (d6 := none) (d7 := none) (d8 := none) (d9 := none) hs ht hp hsp htp h1 h2 V nb 0 none (upS (upS σ 688 p (σ 688 s)) 689 p ((upS σ 688 p (σ 688 s)) 689 t)) (by omega) n1 (fun k hk => by rw [g _ _ (by omega)]; exact s3 k hk) (fun k hk => by rw [g _ _ (by omega)]; exact s5 k hk) (fun k hk => by rw [g _ _ (by omega)]; exact t5 k hk) (fun k hk => absurd hk (Nat.not_lt_zero k))
  obtain ⟨x2, c1, c2, c3⟩ := l295e (N' := N') (d1 := some (vI s)) (d6 := none) (d7 := none) (d8 := none) (d9 := none) ht hp htp h3 na' 0 x1 (by omega) (by rw [a3 _ _ (by omega)]; exact n2) (fun k hk => by rw [a3 _ _ (by omega), g _ _ (by omega)]; exact t4 k hk) (fun k hk => absurd hk (Nat.not_lt_zero k))
  have W := fc_VF V V'
  have m1 : x2 688 p = (nb : Nat) := by rw [c3 _ _ (by omega), a3 _ _ (by omega)]; exact n1
  have m2 : x2 689 p = (na' : Nat) := by rw [c3 _ _ (by omega), a3 _ _ (by omega)]; exact n2
  obtain ⟨x3, e1, e2, e3, e4, e5⟩ := d280 (s := p) (wh := 0) (f := fc F F') (σ := x2) hp (by decide) h1 h3 W m1 m2 (fun i hi => by rw [c3 _ _ (by omega)]; exact (a2 i hi).2)
  obtain ⟨x4, f1, f2, f3⟩ := l295c (l := hks (fc F F') nb na') (O := O) (N := N') (d1 := some (vI s)) (d2 := some (vI t)) hp h1 h3 (by omega) (fun q hq => by
    obtain ⟨n, hn⟩ := List.getElem?_of_mem hq
    exact hks_bd W hn) (hks (fc F F') nb na').length 0 (fc F F') x3 (by omega) e2 (fun i hi => by rw [e5 _ _ (by omega) (by omega), c3 _ _ (by omega)]; exact (a2 i hi).1) (fun i hi => by rw [e5 _ _ (by omega) (by omega)]; exact c2 i hi) (fun i hi => by rw [e5 _ _ (by omega) (by omega), c3 _ _ (by omega)]; exact (a2 i hi).2)
  refine ⟨x4, b295 ⟨by omega, by omega, by omega, by omega, ?_⟩, ⟨by rw [f3 _ _ (by omega), e5 _ _ (by omega) (by omega)]; exact m1, by rw [f3 _ _ (by omega), e5 _ _ (by omega) (by omega)]; exact m2, fun i hi => ?_, fun i hi => ?_, fun i hi => f2 i hi⟩, fun c x y1 y2 y3 => ?_⟩
  · rw [show ((p : Nat) : Int).toNat = p by omega, show ((s : Nat) : Int).toNat = s by omega, show ((t : Nat) : Int).toNat = t by omega]
    exact a1 (fun d5 => c1 ⟨_, _, e1, f1 _ _ _ _⟩ d5)
  · rw [f3 _ _ (by omega), e5 _ _ (by omega) (by omega), c3 _ _ (by omega)]; exact (a2 i hi).1
  · rw [f3 _ _ (by omega), e5 _ _ (by omega) (by omega)]; exact c2 i hi
  · rw [f3 c x (by omega), e5 c x (by omega) (by omega), c3 c x (by omega), a3 c x (by omega), g c x y2]
end
-- DRAFT 85.join2.lean
/-! join, the class's side. -/
noncomputable section
theorem at_on {σ : Sg} {a n : Nat} {f : Nat → Int} (hz : σ a 1 = (n : Nat)) (hf : ∀ i, i < n → σ (a + 1) i = f i) {i : Nat} (hi : i < n) : atS σ a (i : Int) = f i := by
  unfold atS
  rw [if_pos (by omega), show ((i : Nat) : Int).toNat = i by omega]
  exact hf i hi
theorem st_in {σ : Sg} {a n : Nat} {v : Int} (hz : σ a 1 = (n : Nat)) {i : Nat} (hi : i < n) : stS σ a (i : Int) v = upS σ (a + 1) i v := by
  unfold stS
  rw [if_pos (by omega), show ((i : Nat) : Int).toNat = i by omega]
theorem VF_cg {f g : Nat → Int} {nb na : Nat} (h : ∀ i, i < nb → g i = f i) (V : VF f nb na) : VF g nb na := by
  refine ⟨fun i hi => by rw [h i hi]; exact V.1 i hi, fun i i' h1 h2 h3 h4 => ?_⟩
  rw [h i (by omega)] at h3 ⊢
  rw [h i' h2] at h4 ⊢
  exact V.2 i i' h1 h2 h3 h4
theorem hks_cg {f g : Nat → Int} {nb na : Nat} (h : ∀ i, i < nb → g i = f i) : hks g nb na = hks f nb na := hkF_congr h _ _ _
theorem WF_e {σ s : Sg} (h : ∀ a, isRow a = true → s a 1 = σ a 1) (H : WF σ) : WF s := by
  intro a ha
  rw [h a ha]
  exact H a ha
theorem l5a {q : Nat × Nat × Nat × Nat} {nb na : Nat} {O N G : Nat → Int} {d1 : Option AV} {σ0 : Sg} (h1 : nb ≤ 100) (h2 : na ≤ 100) (hb : q.1 + q.2.1 ≤ nb) (ha : q.2.2.1 + q.2.2.2 ≤ na) (w1 : wR σ0 352) (w2 : wR σ0 354) (w3 : wR σ0 377) (z1 : σ0 352 1 = (nb : Nat)) (z2 : σ0 354 1 = (na : Nat)) (z3 : σ0 377 1 = (nb : Nat)) (hO : ∀ i, i < nb → σ0 353 i = O i) (hN : ∀ i, i < na → σ0 355 i = N i) : ∀ (d k : Nat) (σ : Sg), k + d = pt O N q → (∀ c x, ¬ c = 378 → σ c x = σ0 c x) → (∀ x, x < nb → σ 378 x = pe1 q G k 0 x) → ∃ s, (∀ {o : Rs}, C5_93 d1 ((q.1 + pt O N q : Nat) : Int) ((q.2.2.1 + pt O N q : Nat) : Int) ((q.1 + q.2.1 : Nat) : Int) ((q.2.2.1 + q.2.2.2 : Nat) : Int) s o → C5_38 d1 ((q.1 + k : Nat) : Int) ((q.2.2.1 + k : Nat) : Int) ((q.1 + q.2.1 : Nat) : Int) ((q.2.2.1 + q.2.2.2 : Nat) : Int) σ o) ∧ (∀ x, x < nb → s 378 x = pe1 q G (pt O N q) 0 x) ∧ ∀ c x, ¬ c = 378 → s c x = σ0 c x := by
  obtain ⟨b1, b2, b3, b4⟩ := pt_b (O := O) (N := N) (q := q)
  have r1 : ∀ (σ : Sg) (i : Nat), (∀ c x, ¬ c = 378 → σ c x = σ0 c x) → i < nb → Dd 147 [vA 352, vI i] σ (rI (O i) σ) := by
    intro σ i hf hi
    have e := d147 (σ := σ) (a := 352) (i := (i : Int)) ⟨w1.1, by rw [hf _ _ (by decide)]; exact w1.2⟩
    rw [at_on (n := nb) (f := O) (by rw [hf _ _ (by decide)]; exact z1) (fun i hi => by rw [hf _ _ (by decide)]; exact hO i hi) hi] at e
    exact e
  have r2 : ∀ (σ : Sg) (i : Nat), (∀ c x, ¬ c = 378 → σ c x = σ0 c x) → i < na → Dd 147 [vA 354, vI i] σ (rI (N i) σ) := by
    intro σ i hf hi
    have e := d147 (σ := σ) (a := 354) (i := (i : Int)) ⟨w2.1, by rw [hf _ _ (by decide)]; exact w2.2⟩
    rw [at_on (n := na) (f := N) (by rw [hf _ _ (by decide)]; exact z2) (fun i hi => by rw [hf _ _ (by decide)]; exact hN i hi) hi] at e
    exact e
  intro d
  induction d with
  | zero =>
    intro k σ hk hf hG
    have e : k = pt O N q := by omega
    subst e
    refine ⟨σ, fun {o} hh => b5_38 ?_, hG, hf⟩
    by_cases y1 : pt O N q < q.2.1
    · rw [if_pos (by omega)]
      by_cases y2 : pt O N q < q.2.2.2
      · rw [if_pos (by omega)]
        refine ⟨_, _, r1 σ _ hf (by omega), _, _, r2 σ _ hf (by omega), ?_⟩
        rw [if_neg (b4 y1 y2)]
        exact hh
      · rw [if_neg (by omega)]
        exact hh
    · rw [if_neg (by omega)]
      exact hh
  | succ d ih =>
    intro k σ hk hf hG
    obtain ⟨s, a1, a2, a3⟩ := ih (k + 1) (upS σ 378 (q.1 + k) ((q.2.2.1 + k : Nat) : Int)) (by omega) (fun c x hc => by rw [up_a hc]; exact hf c x hc) (fun x hx => by
      by_cases e : x = q.1 + k
      · rw [e, up_s]
        unfold pe1
        rw [if_pos (by omega)]
        congr 1
        omega
      · rw [up_k e, hG x hx]
        unfold pe1
        by_cases y : q.1 ≤ x ∧ x < q.1 + k
        · rw [if_pos y, if_pos (by omega)]
        · rw [if_neg y, if_neg (show ¬ (q.1 ≤ x ∧ x < q.1 + (k + 1)) by omega)])
    refine ⟨s, fun {o} hh => b5_38 ?_, a2, a3⟩
    have e := d148 (σ := σ) (a := 377) (i := ((q.1 + k : Nat) : Int)) (v := ((q.2.2.1 + k : Nat) : Int)) ⟨w3.1, by rw [hf _ _ (by decide)]; exact w3.2⟩
    rw [st_in (n := nb) (by rw [hf _ _ (by decide)]; exact z3) (by omega)] at e
    rw [if_pos (by omega), if_pos (by omega)]
    refine ⟨_, _, r1 σ _ hf (by omega), _, _, r2 σ _ hf (by omega), ?_⟩
    rw [if_pos (b3 k (by omega))]
    refine ⟨_, e, by omega, by omega, ?_⟩
    have z := a1 hh
    rw [show ((q.1 + (k + 1) : Nat) : Int) = ((q.1 + k : Nat) : Int) + 1 by omega, show ((q.2.2.1 + (k + 1) : Nat) : Int) = ((q.2.2.1 + k : Nat) : Int) + 1 by omega] at z
    exact z
theorem l5b {q : Nat × Nat × Nat × Nat} {nb na : Nat} {O N G : Nat → Int} {d1 : Option AV} {σ0 : Sg} (h1 : nb ≤ 100) (h2 : na ≤ 100) (hb : q.1 + q.2.1 ≤ nb) (ha : q.2.2.1 + q.2.2.2 ≤ na) (w1 : wR σ0 352) (w2 : wR σ0 354) (w3 : wR σ0 377) (z1 : σ0 352 1 = (nb : Nat)) (z2 : σ0 354 1 = (na : Nat)) (z3 : σ0 377 1 = (nb : Nat)) (hO : ∀ i, i < nb → σ0 353 i = O i) (hN : ∀ i, i < na → σ0 355 i = N i) : ∀ (d k : Nat) (σ : Sg), k + d = pu O N q → (∀ c x, ¬ c = 378 → σ c x = σ0 c x) → (∀ x, x < nb → σ 378 x = pe1 q G (pt O N q) k x) → ∃ s, C5_93 d1 ((q.1 + pt O N q : Nat) : Int) ((q.2.2.1 + pt O N q : Nat) : Int) ((q.1 + q.2.1 - k : Nat) : Int) ((q.2.2.1 + q.2.2.2 - k : Nat) : Int) σ (rV s) ∧ (∀ x, x < nb → s 378 x = pe O N q G x) ∧ ∀ c x, ¬ c = 378 → s c x = σ0 c x := by
  obtain ⟨b1, b2, b3, b4⟩ := pu_b (O := O) (N := N) (q := q)
  have r1 : ∀ (σ : Sg) (i : Nat), (∀ c x, ¬ c = 378 → σ c x = σ0 c x) → i < nb → Dd 147 [vA 352, vI i] σ (rI (O i) σ) := by
    intro σ i hf hi
    have e := d147 (σ := σ) (a := 352) (i := (i : Int)) ⟨w1.1, by rw [hf _ _ (by decide)]; exact w1.2⟩
    rw [at_on (n := nb) (f := O) (by rw [hf _ _ (by decide)]; exact z1) (fun i hi => by rw [hf _ _ (by decide)]; exact hO i hi) hi] at e
    exact e
  have r2 : ∀ (σ : Sg) (i : Nat), (∀ c x, ¬ c = 378 → σ c x = σ0 c x) → i < na → Dd 147 [vA 354, vI i] σ (rI (N i) σ) := by
    intro σ i hf hi
    have e := d147 (σ := σ) (a := 354) (i := (i : Int)) ⟨w2.1, by rw [hf _ _ (by decide)]; exact w2.2⟩
    rw [at_on (n := na) (f := N) (by rw [hf _ _ (by decide)]; exact z2) (fun i hi => by rw [hf _ _ (by decide)]; exact hN i hi) hi] at e
    exact e
  intro d
  induction d with
  | zero =>
    intro k σ hk hf hG
    have e : k = pu O N q := by omega
    subst e
    refine ⟨σ, b5_93 ?_, hG, hf⟩
    by_cases y1 : pt O N q + pu O N q < q.2.1
    · rw [if_pos (by omega)]
      by_cases y2 : pt O N q + pu O N q < q.2.2.2
      · rw [if_pos (by omega), show ((q.1 + q.2.1 - pu O N q : Nat) : Int) - 1 = ((q.1 + q.2.1 - 1 - pu O N q : Nat) : Int) by omega, show ((q.2.2.1 + q.2.2.2 - pu O N q : Nat) : Int) - 1 = ((q.2.2.1 + q.2.2.2 - 1 - pu O N q : Nat) : Int) by omega]
        refine ⟨by omega, _, _, r1 σ _ hf (by omega), by omega, _, _, r2 σ _ hf (by omega), ?_⟩
        rw [if_neg (b4 y1 y2)]
      · rw [if_neg (by omega)]
    · rw [if_neg (by omega)]
  | succ d ih =>
    intro k σ hk hf hG
    obtain ⟨s, a1, a2, a3⟩ := ih (k + 1) (upS σ 378 (q.1 + q.2.1 - 1 - k) ((q.2.2.1 + q.2.2.2 - 1 - k : Nat) : Int)) (by omega) (fun c x hc => by rw [up_a hc]; exact hf c x hc) (fun x hx => by
      by_cases e : x = q.1 + q.2.1 - 1 - k
      · rw [e, up_s]
        unfold pe1
        rw [if_neg (by omega), if_pos (by omega)]
        congr 1
        omega
      · rw [up_k e, hG x hx]
        unfold pe1
        by_cases y : q.1 ≤ x ∧ x < q.1 + pt O N q
        · rw [if_pos y, if_pos y]
        · rw [if_neg y, if_neg y]
          by_cases y2 : q.1 + q.2.1 - k ≤ x ∧ x < q.1 + q.2.1
          · rw [if_pos y2, if_pos (by omega)]
          · rw [if_neg y2, if_neg (show ¬ (q.1 + q.2.1 - (k + 1) ≤ x ∧ x < q.1 + q.2.1) by omega)])
    refine ⟨s, b5_93 ?_, a2, a3⟩
    have e := d148 (σ := σ) (a := 377) (i := ((q.1 + q.2.1 - 1 - k : Nat) : Int)) (v := ((q.2.2.1 + q.2.2.2 - 1 - k : Nat) : Int)) ⟨w3.1, by rw [hf _ _ (by decide)]; exact w3.2⟩
    rw [st_in (n := nb) (by rw [hf _ _ (by decide)]; exact z3) (by omega)] at e
    rw [if_pos (by omega), if_pos (by omega), show ((q.1 + q.2.1 - k : Nat) : Int) - 1 = ((q.1 + q.2.1 - 1 - k : Nat) : Int) by omega, show ((q.2.2.1 + q.2.2.2 - k : Nat) : Int) - 1 = ((q.2.2.1 + q.2.2.2 - 1 - k : Nat) : Int) by omega, show ((q.1 + q.2.1 - k : Nat) : Int) + (-1) = ((q.1 + q.2.1 - 1 - k : Nat) : Int) by omega, show ((q.2.2.1 + q.2.2.2 - k : Nat) : Int) + (-1) = ((q.2.2.1 + q.2.2.2 - 1 - k : Nat) : Int) by omega]
    refine ⟨by omega, _, _, r1 σ _ hf (by omega), by omega, _, _, r2 σ _ hf (by omega), ?_⟩
    rw [if_pos (b3 k (by omega))]
    refine ⟨by omega, by omega, _, e, ?_⟩
    rw [show q.1 + q.2.1 - (k + 1) = q.1 + q.2.1 - 1 - k by omega, show q.2.2.1 + q.2.2.2 - (k + 1) = q.2.2.1 + q.2.2.2 - 1 - k by omega] at a1
    exact a1
theorem PC_fr {σ s : Sg} {P : Nat} {l : List (Nat × Nat × Nat × Nat)} (h1 : ∀ k, s (P + 9) k = σ (P + 9) k) (h2 : ∀ k, s (P + 10) k = σ (P + 10) k) (C : PC σ P l) : PC s P l := by
  obtain ⟨c1, c2, c3⟩ := C
  exact ⟨by rw [h1]; exact c1, fun h q hq => by rw [h2, h2, h2, h2]; exact c2 h q hq, c3⟩
theorem cpS377 : isRow 377 = true ∧ cap 377 = 96 ∧ isRow 352 = true ∧ isRow 354 = true ∧ isRow 360 = true := by decide +kernel
theorem l4c {P Q nb na : Nat} {l : List (Nat × Nat × Nat × Nat)} {O N : Nat → Int} {σ0 : Sg} (hP : isPatch P = true) (hQ : isPatch Q = true) (p351 : isPatch 351 = true) (h1 : nb ≤ 100) (h2 : na ≤ 100) (hl : l.length ≤ 120) (hbd : ∀ q, q ∈ l → q.1 + q.2.1 ≤ nb ∧ q.2.2.1 + q.2.2.2 ≤ na) (w1 : wR σ0 352) (w2 : wR σ0 354) (w3 : wR σ0 377) (w9 : wR σ0 360) (z1 : σ0 352 1 = (nb : Nat)) (z2 : σ0 354 1 = (na : Nat)) (z3 : σ0 377 1 = (nb : Nat)) (hO : ∀ i, i < nb → σ0 353 i = O i) (hN : ∀ i, i < na → σ0 355 i = N i) (C : PC σ0 351 l) : ∀ (d h : Nat) (G : Nat → Int) (σ : Sg), h + d = l.length → (∀ c x, ¬ c = 378 → σ c x = σ0 c x) → (∀ x, x < nb → σ 378 x = G x) → ∃ s, (∀ {o : Rs}, (∃ (s7 : Sg), Dd 95 [vA 351, vA (P + 1), vA (Q + 3), vA 377] s (rV s7) ∧ o = (rA 351 s7)) → ∀ d4, C4_83 P Q h d4 σ o) ∧ (∀ x, x < nb → s 378 x = ((l.drop h).foldl (fun G q => pe O N q G) G) x) ∧ ∀ c x, ¬ c = 378 → s c x = σ0 c x := by
  intro d
  induction d with
  | zero =>
    intro h G σ hh hf hG
    have C' : PC σ 351 l := PC_fr (fun k => hf _ _ (by decide)) (fun k => hf _ _ (by decide)) C
    refine ⟨σ, fun {o} hx d4 => b4_83 hP hQ ⟨_, _, d98' p351 C', ?_⟩, fun x hx => ?_, hf⟩
    · rw [if_neg (by omega)]
      exact hx
    · rw [List.drop_eq_nil_of_le (by omega)]
      exact hG x hx
  | succ d ih =>
    intro h G σ hh hf hG
    have C' : PC σ 351 l := PC_fr (fun k => hf _ _ (by decide)) (fun k => hf _ _ (by decide)) C
    have hlt : h < l.length := by omega
    obtain ⟨q, hq⟩ : ∃ q, q = l[h] := ⟨_, rfl⟩
    have hq2 : l[h]? = some q := by rw [hq]; exact List.getElem?_eq_getElem hlt
    obtain ⟨b1, b2⟩ := hbd q (by rw [hq]; exact List.getElem_mem hlt)
    obtain ⟨e0, e2, e3, e5⟩ := pc_at p351 (show wR σ (351 + 9) from ⟨w9.1, by rw [hf _ _ (by decide)]; exact w9.2⟩) C' hq2
    obtain ⟨s1, a1, a2, a3⟩ := l5a (d1 := some (vI (h : Nat))) (G := G) h1 h2 b1 b2 w1 w2 w3 z1 z2 z3 hO hN (pt O N q) 0 σ (by omega) hf (fun x hx => by rw [pe1_0]; exact hG x hx)
    obtain ⟨s2, c1, c2, c3⟩ := l5b (d1 := some (vI (h : Nat))) (G := G) h1 h2 b1 b2 w1 w2 w3 z1 z2 z3 hO hN (pu O N q) 0 s1 (by omega) a3 a2
    obtain ⟨s, f1, f2, f3⟩ := ih (h + 1) (pe O N q G) s2 (by omega) c3 c2
    have D5 : Dd 5 [vA 350, vI h] σ (rV s2) := by
      refine b5 ⟨_, _, e0, _, _, e3, _, _, e2, _, _, e5, ?_⟩
      have z := a1 c1
      rw [Nat.add_zero, Nat.add_zero] at z
      exact z
    refine ⟨s, fun {o} hx d4 => b4_83 hP hQ ⟨_, _, d98' p351 C', ?_⟩, fun x hx => ?_, f3⟩
    · rw [if_pos (by omega), show (h : Int) + 1 = ((h + 1 : Nat) : Int) by omega]
      exact ⟨_, D5, by omega, f1 hx d4⟩
    · rw [f2 x hx, List.drop_eq_getElem_cons hlt, List.foldl_cons, ← hq]
theorem l4a {P Q nb na na' : Nat} {F F' : Nat → Int} {σ0 : Sg} (hP : isPatch P = true) (hQ : isPatch Q = true) (hPl : P < 338 ∨ 378 < P) (hQl : Q < 338 ∨ 378 < Q) (h1 : nb ≤ 96) (V : VF F nb na) (w5 : wR σ0 (P + 5)) (w5' : wR σ0 (Q + 5)) (z1 : σ0 (P + 1) 1 = (nb : Nat)) (z5 : σ0 (P + 5) 1 = (nb : Nat)) (z5' : σ0 (Q + 5) 1 = (na : Nat)) (hF : ∀ i, i < nb → σ0 (P + 6) i = F i) (hF' : ∀ i, i < na → σ0 (Q + 6) i = F' i) : ∀ (d i : Nat) (d4 : Option AV) (σ : Sg), i + d = nb → (∀ c x, ¬ c = 377 → ¬ c = 378 → σ c x = σ0 c x) → Rw σ 377 ((List.range i).map (fc F F')) → ∃ s, (∀ {o : Rs}, (∃ (s10 : Sg), Dd 95 [vA 351, vA (P + 1), vA (Q + 3), vA 377] s (rV s10) ∧ ∀ d4, C4_83 P Q 0 d4 s10 o) → C4_9 P Q i d4 σ o) ∧ Rw s 377 ((List.range nb).map (fc F F')) ∧ ∀ c x, ¬ c = 377 → ¬ c = 378 → s c x = σ0 c x := by
  obtain ⟨p377, c377, -⟩ := cpS377
  intro d
  induction d with
  | zero =>
    intro i d4 σ hi hf hR
    have e : i = nb := by omega
    subst e
    refine ⟨σ, fun {o} ⟨s10, x1, x2⟩ => b4_9 hP hQ ⟨_, _, d146 (pat_1 hP), ?_⟩, hR, hf⟩
    rw [hf _ _ (by omega) (by omega), z1, if_neg (by omega)]
    exact ⟨s10, x1, x2 d4⟩
  | succ d ih =>
    intro i d4 σ hi hf hR
    have hlen : ((List.range i).map (fc F F')).length = i := by rw [List.length_map, List.length_range]
    have hR2 := Rw_ad (v := fc F F' i) hR (by rw [hlen, c377]; omega)
    have e1 : (List.range i).map (fc F F') ++ [fc F F' i] = (List.range (i + 1)).map (fc F F') := by
      rw [List.range_succ, List.map_append]
      rfl
    rw [e1] at hR2
    have hw := Rw_wR p377 hR (by rw [hlen, c377]; omega)
    obtain ⟨s, a1, a2, a3⟩ := ih (i + 1) (some (vI (F i))) (adS σ 377 (fc F F' i)) (by omega) (fun c x h h' => by rw [ad_off h h']; exact hf c x h h') hR2
    refine ⟨s, fun {o} hx => b4_9 hP hQ ⟨_, _, d146 (pat_1 hP), ?_⟩, a2, a3⟩
    have e5 := d147 (σ := σ) (a := P + 5) (i := (i : Int)) ⟨w5.1, by rw [hf _ _ (by omega) (by omega)]; exact w5.2⟩
    rw [at_on (n := nb) (f := F) (by rw [hf _ _ (by omega) (by omega)]; exact z5) (fun i hi => by rw [hf _ _ (by omega) (by omega)]; exact hF i hi) (by omega)] at e5
    rw [hf _ _ (by omega) (by omega), z1, if_pos (by omega)]
    refine ⟨_, _, e5, ?_⟩
    have z : C4_53 P Q i (some (vI (F i))) (fc F F' i) σ o := b4_53 ⟨_, d149 hw, by omega, by
      rw [show (i : Int) + 1 = ((i + 1 : Nat) : Int) by omega]
      exact a1 hx⟩
    rcases V.1 i (by omega) with v | v
    · rw [if_pos v]
      unfold fc at z
      rw [if_pos v] at z
      exact z
    · rw [if_neg (by omega)]
      unfold fc at z
      rw [if_neg (by omega)] at z
      have e6 := d147 (σ := σ) (a := Q + 5) (i := F i) ⟨w5'.1, by rw [hf _ _ (by omega) (by omega)]; exact w5'.2⟩
      have e7 : atS σ (Q + 5) (F i) = F' (F i).toNat := by
        have := at_on (σ := σ) (a := Q + 5) (n := na) (f := F') (by rw [hf _ _ (by omega) (by omega)]; exact z5') (fun i hi => by rw [hf _ _ (by omega) (by omega)]; exact hF' i hi) (i := (F i).toNat) (by omega)
        rw [show (((F i).toNat : Nat) : Int) = F i by omega] at this
        exact this
      rw [e7] at e6
      exact ⟨_, _, e6, z⟩
/-- Combiner.joined -/
theorem d4 {σ : Sg} {P Q nb na na' : Nat} (w : WF σ) (hP : isPatch P = true) (hQ : isPatch Q = true) (hPl : P < 338 ∨ 378 < P) (hQl : Q < 338 ∨ 378 < Q) (h1 : nb ≤ 96) (h2 : na ≤ 100) (h3 : na' ≤ 96) (N1 : NP σ P nb na) (N2 : NP σ Q na na') (e1 : ∀ i, i < nb → ¬ σ (P + 6) i = -1 → σ (P + 2) i = σ (P + 4) (σ (P + 6) i).toNat) (e2 : ∀ i, i < na → ¬ σ (Q + 6) i = -1 → σ (Q + 2) i = σ (Q + 4) (σ (Q + 6) i).toNat) (e3 : ∀ k, k < na → σ (P + 4) k = σ (Q + 2) k) : ∃ s, Dd 4 [vA 350, vA P, vA Q] σ (rA 351 s) ∧ NP s 351 nb na' ∧ WF s ∧ (∀ i, i < nb → s 353 i = σ (P + 2) i) ∧ (∀ i, i < na' → s 355 i = σ (Q + 4) i) ∧ (∀ i, i < nb → s 357 i = jp (σ (P + 2)) (σ (Q + 4)) (σ (P + 6)) (σ (Q + 6)) nb na' i) ∧ ∀ c x, ¬ (352 ≤ c ∧ c ≤ 361) → ¬ c = 377 → ¬ c = 378 → s c x = σ c x := by
  obtain ⟨p351, c352, c354, c356, c358, c360⟩ := cpS351
  have c352' : cap (351 + 1) = 96 := c352
  have c354' : cap (351 + 3) = 96 := c354
  have c356' : cap (351 + 5) = 96 := c356
  have c358' : cap (351 + 7) = 96 := c358
  have c360' : cap (351 + 9) = 388 := c360
  obtain ⟨p377, c377, p352, p354, p360⟩ := cpS377
  obtain ⟨n1, n3, n5, n7, V, K, -⟩ := N1
  obtain ⟨m1, m3, m5, m7, V', K', -⟩ := N2
  have hg : P + 13 ≤ 351 ∨ 378 < P := hPl.imp (fun h => patch_gap hP p351 (by omega)) id
  have hg2 : Q + 13 ≤ 351 ∨ 378 < Q := hQl.imp (fun h => patch_gap hQ p351 (by omega)) id
  have W := fc_VF V V'
  obtain ⟨x1, a1, a2, a3⟩ := l4a (σ0 := σ) (F := σ (P + 6)) (F' := σ (Q + 6)) (na' := na') hP hQ hPl hQl h1 V (WF_w w (pat_5 hP)) (WF_w w (pat_5 hQ)) n1 n5 m5 (fun _ _ => rfl) (fun _ _ => rfl) nb 0 none (upS σ 377 1 0) (by omega) (fun c x h h' => up_a h) Rw_nil
  have hlen : ((List.range nb).map (fc (σ (P + 6)) (σ (Q + 6)))).length = nb := by rw [List.length_map, List.length_range]
  have wx := Rw_wR p377 a2 (by rw [hlen, c377]; omega)
  have y1 : x1 377 1 = (nb : Nat) := by rw [a2.1, hlen]
  have y2 : ∀ i, i < nb → x1 378 i = fc (σ (P + 6)) (σ (Q + 6)) i := fun i hi => by
    refine a2.2 i _ ?_
    rw [List.getElem?_map, List.getElem?_range hi]
    rfl
  have WX : WF x1 := WF_row (r := 377) (fun a ha hne => a3 a 1 hne (row_nx p377 ha)) wx.2 w
  have Vx : VF (x1 (377 + 1)) nb na' := VF_cg y2 W
  obtain ⟨x2, c1, c2, c3, c4, c5, c6, c7⟩ := d95 (P := 351) (x1 := P + 1) (x2 := Q + 3) (x3 := 377) (nb := nb) (na := na') (σ := x1) p351 (WF_w WX (pat_1 hP)) (WF_w WX (pat_3 hQ)) wx (by rw [a3 _ _ (by omega) (by omega)]; exact n1) (by rw [a3 _ _ (by omega) (by omega)]; exact m3) y1 Vx (by omega) (by omega) (by omega) (by omega) (by omega) (by omega) (by omega) (by omega)
  have WX2 : WF x2 := WF_np WX p351 c2 c3 (by omega) (by omega) (by omega) (by omega) c7
  have hk : hks (x2 (351 + 6)) nb na' = hks (fc (σ (P + 6)) (σ (Q + 6))) nb na' := hks_cg (fun i hi => by rw [c6 i hi]; exact y2 i hi)
  have C2 := PC_of c2 (by omega) (by omega)
  rw [hk] at C2
  have hlk := hks_len W
  obtain ⟨x3, f1, f2, f3⟩ := l4c (l := hks (fc (σ (P + 6)) (σ (Q + 6))) nb na') (O := σ (P + 2)) (N := σ (Q + 4)) (σ0 := x2) hP hQ p351 (by omega) (by omega) (by omega) (fun q hq => by
    obtain ⟨n, hn⟩ := List.getElem?_of_mem hq
    exact hks_bd W hn) (WF_w WX2 p352) (WF_w WX2 p354) (WF_w WX2 p377) (WF_w WX2 p360) c2.1 c2.2.1 (by rw [c7 _ _ (by omega)]; exact y1) (fun i hi => by rw [c4 i hi, a3 _ _ (by omega) (by omega)]) (fun i hi => by rw [c5 i hi, a3 _ _ (by omega) (by omega)]) C2 (hks (fc (σ (P + 6)) (σ (Q + 6))) nb na').length 0 (fc (σ (P + 6)) (σ (Q + 6))) x2 (by omega) (fun _ _ _ => rfl) (fun i hi => by rw [c7 _ _ (by omega)]; exact y2 i hi)
  have g := jp_GD V V' e1 e2 e3
  have h378 : ∀ a, isRow a = true → ¬ a = 378 := fun a ha => row_nx p377 ha
  have WX3 : WF x3 := WF_e (fun a ha => f3 a 1 (h378 a ha)) WX2
  have q1 : ¬ P + 1 = 378 := by omega
  have q2 : ¬ Q + 3 = 378 := by omega
  have fr : ∀ c x, ¬ (352 ≤ c ∧ c ≤ 361) → ¬ c = 377 → ¬ c = 378 → x3 c x = σ c x := fun c x k1 k2 k3 => by rw [f3 c x k3, c7 c x (by omega), a3 c x k2 k3]
  have V3 : VF (x3 (377 + 1)) nb na' := VF_cg f2 g.1
  obtain ⟨x4, g1, g2, g3, g4, g5, g6, g7⟩ := d95 (P := 351) (x1 := P + 1) (x2 := Q + 3) (x3 := 377) (nb := nb) (na := na') (σ := x3) p351 (WF_w WX3 (pat_1 hP)) (WF_w WX3 (pat_3 hQ)) (WF_w WX3 p377) (by rw [fr _ _ (by omega) (by omega) (by omega)]; exact n1) (by rw [fr _ _ (by omega) (by omega) (by omega)]; exact m3) (by rw [f3 _ _ (by decide), c7 _ _ (by omega)]; exact y1) V3 (by omega) (by omega) (by omega) (by omega) (by omega) (by omega) (by omega) (by omega)
  refine ⟨x4, b4 ⟨_, d152 p377, a1 ⟨x2, c1, fun d4 => f1 ⟨x4, g1, rfl⟩ d4⟩⟩, g2, WF_np WX3 p351 g2 g3 (by omega) (by omega) (by omega) (by omega) g7, fun i hi => ?_, fun i hi => ?_, fun i hi => ?_, fun c x k1 k2 k3 => by rw [g7 c x (by omega)]; exact fr c x k1 k2 k3⟩
  · rw [g4 i hi, fr _ _ (by omega) (by omega) (by omega)]
  · rw [g5 i hi, fr _ _ (by omega) (by omega) (by omega)]
  · rw [g6 i hi]; exact f2 i hi
theorem o11 {σ : Sg} {c a1 a2 : Int} (H : Rel c σ) : OpR 401 301 [vA 0, vI a1, vI a2, vA 726] [vA 682, vI a1, vI a2] σ (c + 1) := by
  by_cases g1 : a1 < 0
  · exact x11_0 H g1
  by_cases g2 : σ 0 3 ≤ a1
  · exact x11_1 H g2
  have k1 : 0 ≤ a1 ∧ a1 < σ 0 3 := by omega
  by_cases g3 : a2 < 0
  · exact x11_2 H k1 g3
  by_cases g4 : σ 0 3 ≤ a2
  · exact x11_3 H k1 g4
  have k2 : 0 ≤ a2 ∧ a2 < σ 0 3 := by omega
  obtain ⟨a, rfl⟩ := Int.eq_ofNat_of_zero_le k1.1
  obtain ⟨b, rfl⟩ := Int.eq_ofNat_of_zero_le k2.1
  have hn := (rel_n H).1
  obtain ⟨hP, q1, q2, w1, w3⟩ := po_pat H k1.2
  obtain ⟨nb, na, b1, b2, N, S⟩ := po_slot q1 q2 w1 w3
  obtain ⟨hQ, r1, r2, y1, y3⟩ := po_pat H k2.2
  obtain ⟨nb', na', b3, b4', N', S'⟩ := po_slot r1 r2 y1 y3
  have e230 := d230_ok (σ := σ) k1 hn.2.2
  have f230 := d230_ok (σ := σ) k2 hn.2.2
  rw [show ((a : Int)).toNat = a by omega] at e230
  rw [show ((b : Int)).toNat = b by omega] at f230
  obtain ⟨c1, c2⟩ := d237 hP hQ H.1 N N'
  have m0 : ∀ {s : Sg} {o : Rs}, s 682 3 = σ 682 3 → C301_21 a b none 1 s o → Dd 301 [vA 682, vI a, vI b] s o := by
    intro s o h hh
    refine b301 ⟨_, _, d248_ok (by omega), ?_⟩
    rw [if_neg (show ¬ (1 : Int) = 0 by decide)]
    refine ⟨_, _, d248_ok (by omega), ?_⟩
    rw [if_neg (show ¬ (1 : Int) = 0 by decide)]
    exact hh
  have mx : ∀ s : Sg, C301_49 a b (some (vI 1)) s (rI 0 (upS s 682 0 2)) := by
    intro s
    refine b301_49 (b301_54 ⟨_, _, d245, ?_⟩)
    rw [if_neg (show ¬ (2 : Int) = 0 by decide), if_pos rfl]
  by_cases hf : FLW nb' na (σ (20 + 13 * a + 4)) (σ (20 + 13 * b + 2))
  · have ena := hf.1
    subst ena
    have gd : ∀ {P nb na : Nat}, NP σ P nb na → PO σ P 16 → ∀ i, i < nb → ¬ σ (P + 6) i = -1 → σ (P + 2) i = σ (P + 4) (σ (P + 6) i).toNat := by
      intro P nb na n h i hi e
      have n1 := n.1
      rcases h.2.2.2.2.1 i (by omega) with z | z
      · exact absurd z e
      · exact z.2.2.2
    obtain ⟨s1, a1', n2, W1, v1, v2, v3, fr⟩ := d4 H.1 hP hQ (by omega) (by omega) (by omega) (by omega) (by omega) N N' (gd N q2) (gd N' r2) hf.2
    obtain ⟨p351, -⟩ := cpS351
    have F1 : ∀ a k, a < 682 → KP a k → s1 a k = σ a k := fun a k h1 h2 => fr a k (by omega) (by omega) (by omega)
    have G1 : ∀ a k, 682 ≤ a → s1 a k = σ a k := fun a k h1 => fr a k (by omega) (by omega) (by omega)
    have g := jp_GD N.2.2.2.2.1 N'.2.2.2.2.1 (gd N q2) (gd N' r2) hf.2
    have P1 : PO s1 351 16 := by
      have z1 := N.1
      have z3 := N'.2.1
      refine PO_of n2 (by omega) (by omega) (fun i hi e => ?_) (fun i hi => ?_) (fun i hi => ?_)
      · have z6 : s1 (351 + 6) i = _ := v3 i hi
        rw [z6] at e ⊢
        rcases g.1.1 i hi with y | y
        · exact absurd y e
        have z2 : s1 (351 + 2) i = _ := v1 i hi
        rw [z2, g.2 i hi e]
        exact (v2 _ (by omega)).symm
      · have z2 : s1 (351 + 2) i = _ := v1 i hi
        rw [z2]; exact q2.2.2.2.2.2.2.2.1 i (by omega)
      · have z2 : s1 (351 + 4) i = _ := v2 i hi
        rw [z2]; exact r2.2.2.2.2.2.2.2.2.1 i (by omega)
    by_cases g5 : σ 0 3 < 24
    · obtain ⟨p, hp⟩ := Int.eq_ofNat_of_zero_le hn.2.1
      refine op_st H hp (by omega) p351 (by decide) W1 F1 G1 P1 n2.1 n2.2.1 (fun s hs => b401 (Or.inl ⟨_, _, b183 (Or.inl ⟨_, _, e230, hP, Or.inl ⟨_, _, f230, hQ, Or.inl ⟨_, c1 hf, _, _, a1', p351, Or.inl ⟨_, _, hs, rfl⟩⟩⟩⟩), rfl⟩)) (fun s hs => ?_)
      have e3 := hs 682 3 (by decide) (by decide)
      have fr0 : ∀ c k, 685 ≤ c ∧ c ≤ 689 → s c k = σ c k := fun c k h => hs c k (by omega) (by omega)
      have fr2 : ∀ c k, 685 ≤ c ∧ c ≤ 689 → upS s 682 0 0 c k = σ c k := fun c k h => by rw [up_a (by omega)]; exact hs c k (by omega) (by omega)
      obtain ⟨s', d1, d2, d3⟩ := d295 (s := a) (t := b) (p := p) (σ := upS s 682 0 0) (by omega) (by omega) (by omega) (by omega) (by omega) (by omega) (by omega) (by omega) N.2.2.2.2.1 N'.2.2.2.2.1 (Slot_fr fr2 S) (Slot_fr fr2 S')
      have e4 : s' 682 3 = (p : Nat) := by rw [d3 _ _ (by omega) (by omega) (by omega), up_k (by decide)]; omega
      refine ⟨upS s' 682 3 ((p : Int) + 1), m0 e3 ?_, ?_, up_s, fun b k h => ?_, fun b k h1 h2 h3 h4 h5 h6 => ?_, ?_⟩
      · refine b301_21 ?_
        rw [if_neg (show ¬ (1 : Int) = 0 by decide)]
        refine ⟨_, _, (d290 (by omega) (by omega) (by omega) (Slot_fr fr0 S) (Slot_fr fr0 S')).1 hf, ?_⟩
        rw [if_neg (show ¬ (1 : Int) = 0 by decide), if_neg (by omega)]
        refine b301_54 ⟨_, _, d245, ?_⟩
        rw [if_pos rfl, if_neg (show ¬ (1 : Int) = 0 by decide), up_k (by decide), e3, hn.1, hp]
        refine ⟨s', d1, ?_⟩
        rw [e4, up_s, show ((p : Nat) : Int) + 1 - 1 = (p : Int) by omega]
        exact ⟨by omega, by omega, rfl⟩
      · rw [up_k (by decide), d3 _ _ (by omega) (by omega) (by omega), up_s]
      · rw [up_a (by omega), d3 _ _ (by omega) (by omega) (by omega), up_a (by omega)]
      · have : upS s' 682 3 ((p : Int) + 1) b k = s' b k := by unfold upS; rw [if_neg h4]
        rw [this, d3 _ _ h5 h6 (by omega)]
        have : upS s 682 0 0 b k = s b k := by unfold upS; rw [if_neg (by omega)]
        rw [this]
        exact hs b k h1 (by omega)
      · obtain ⟨t1, t2, t3, t4, t5⟩ := d2
        refine ⟨by rw [up_a (by decide)]; exact t1, by rw [up_a (by decide)]; exact t2, fun i hi => ?_, fun i hi => ?_, fun i hi => ?_⟩
        · rw [up_a (by decide), t3 i hi]; exact (v1 i hi).symm
        · rw [up_a (by decide), t4 i hi]; exact (v2 i hi).symm
        · rw [up_a (by decide), t5 i hi]; exact (v3 i hi).symm
    · have hfull : Dd 242 [vA 0, vA 351] s1 (rX 2 s1) := d242_full (by rw [F1 0 3 (by decide) (by omega)]; exact g5)
      have e3 := G1 682 3 (by decide)
      have fr0 : ∀ c k, 685 ≤ c ∧ c ≤ 689 → s1 c k = σ c k := fun c k h => G1 c k (by omega)
      refine op_full H (kx := 2) (by decide) W1 F1 G1 (b401 (Or.inr (Or.inr ⟨_, b183 (Or.inl ⟨_, _, e230, hP, Or.inl ⟨_, _, f230, hQ, Or.inl ⟨_, c1 hf, _, _, a1', p351, Or.inr ⟨_, _, hfull, rfl⟩⟩⟩⟩), rfl⟩))) ⟨upS s1 682 0 2, 0, m0 e3 ?_, up_s, fun b k h => by rw [up_a (by omega)], fun b k h1 h2 => ?_⟩
      · refine b301_21 ?_
        rw [if_neg (show ¬ (1 : Int) = 0 by decide)]
        refine ⟨_, _, (d290 (by omega) (by omega) (by omega) (Slot_fr fr0 S) (Slot_fr fr0 S')).1 hf, ?_⟩
        rw [if_neg (show ¬ (1 : Int) = 0 by decide), if_pos (by omega)]
        exact mx _
      · have : upS s1 682 0 2 b k = s1 b k := by unfold upS; rw [if_neg (by omega)]
        rw [this]
        exact G1 b k h1
  · refine op_x H (kx := 2) (b := 0) (by decide) (b401 (Or.inr (Or.inr ⟨_, b183 (Or.inl ⟨_, _, e230, hP, Or.inl ⟨_, _, f230, hQ, Or.inr ⟨_, _, c2 hf, rfl⟩⟩⟩), rfl⟩))) (m0 rfl ?_)
    refine b301_21 ?_
    rw [if_neg (show ¬ (1 : Int) = 0 by decide)]
    refine ⟨_, _, (d290 (by omega) (by omega) (by omega) S S').2 hf, ?_⟩
    rw [if_pos rfl]
    exact mx _
end
-- DRAFT 86.edit.lean
/-! edit: a line of the stack, as far up as it is kept. -/
noncomputable section
def gp (F : Nat → Nat → Int) (k : Nat) (v : Int) : Nat → Int
  | 0 => v
  | d + 1 => if gp F k v d = -1 then -1 else F (k + d + 1) (gp F k v d).toNat
theorem gp_stay {F : Nat → Nat → Int} {k : Nat} {v : Int} {d : Nat} (h : gp F k v d = -1) : ∀ e, gp F k v (d + e) = -1 := by
  intro e
  induction e with
  | zero => exact h
  | succ e ih =>
    rw [show d + (e + 1) = (d + e) + 1 by omega]
    show (if gp F k v (d + e) = -1 then (-1 : Int) else F (k + (d + e) + 1) (gp F k v (d + e)).toNat) = -1
    rw [if_pos ih]
theorem gp_s {F : Nat → Nat → Int} {k : Nat} {v : Int} {d : Nat} (h : ¬ gp F k v d = -1) : gp F k v (d + 1) = F (k + d + 1) (gp F k v d).toNat := by
  show (if gp F k v d = -1 then (-1 : Int) else F (k + d + 1) (gp F k v d).toNat) = _
  rw [if_neg h]
def edB (g : Nat → Int) (k : Nat) (l : Int) (j x : Nat) (v : Int) : Int := if k < j ∧ g (j - k - 1) = (x : Int) then l else v
def edA (g : Nat → Int) (k : Nat) (l : Int) (j x : Nat) (v : Int) : Int := if k ≤ j ∧ g (j - k) = (x : Int) then l else v
/-- the stack after an edit -/
theorem RSt_ed {σ s : Sg} {c : Int} {k h place : Nat} {l : Int} {g : Nat → Int} (H : RSt c σ) (hh : σ 402 3 = (h : Nat)) (hk : k < h) (hg0 : g 0 = (place : Nat)) (hgs : ∀ d, g (d + 1) = if g d = -1 then -1 else σ (406 + 13 * (k + d + 1) + 6) (g d).toNat) (hgv : ∀ d, k + d < h → g d = -1 ∨ (0 ≤ g d ∧ g d < σ (406 + 13 * (k + d) + 3) 1)) (hb : σ (406 + 13 * k + 8) place = -1) (hl : isLn l = true) (fr : ∀ a x, (a = 402 ∧ (x = 3 ∨ x = 4)) ∨ a = 403 ∨ a = 404 ∨ a = 471 ∨ a = 472 ∨ (687 ≤ a ∧ a ≤ 689) ∨ a = 710 ∨ a = 711 ∨ (a = 682 ∧ 39 ≤ x ∧ x ≤ 41) ∨ (∃ j, j < h ∧ (a = 406 + 13 * j + 1 ∨ a = 406 + 13 * j + 3 ∨ (406 + 13 * j + 5 ≤ a ∧ a ≤ 406 + 13 * j + 10))) → s a x = σ a x) (b2 : ∀ j x : Nat, j < h → s (406 + 13 * j + 2) x = edB g k l j x (σ (406 + 13 * j + 2) x)) (b4 : ∀ j x : Nat, j < h → s (406 + 13 * j + 4) x = edA g k l j x (σ (406 + 13 * j + 4) x)) (m2 : ∀ j x : Nat, j < h → x < 100 → s 685 (100 * (24 + j) + x) = edB g k l j x (σ 685 (100 * (24 + j) + x))) (m4 : ∀ j x : Nat, j < h → x < 100 → s 686 (100 * (24 + j) + x) = edA g k l j x (σ 686 (100 * (24 + j) + x))) : RSt (c + 1) s := by
  obtain ⟨h1, h2, h3, h4, h5, h6, h7, h8, h9, h10, h11⟩ := H
  have e0 := fr 402 3 (by omega)
  have e1 := fr 402 4 (by omega)
  have e2 := fr 682 39 (by omega)
  have e3 := fr 682 40 (by omega)
  have e4 := fr 682 41 (by omega)
  refine ⟨by omega, by omega, by omega, by omega, by omega, by omega, rowEq_fr (fr _ _ (by omega)) (fun i => fr _ _ (by omega)) (fun i => fr _ _ (by omega)) e0 h7, fun q hq => ?_, rowEq_fr (fr _ _ (by omega)) (fun i => fr _ _ (by omega)) (fun i => fr _ _ (by omega)) e2 h9, fun i hi => ?_, fun j hj => ?_⟩
  · rw [e0] at hq
    rw [fr 472 q (by omega), e1]
    exact h8 q hq
  · rw [fr 403 1 (by omega)] at hi
    rw [fr 404 i (by omega)]
    exact h10 i hi
  · rw [e0] at hj
    have hj' : j < h := by omega
    obtain ⟨g1, g2, g3⟩ := h11 j hj
    have b := PR_16 g1 g2
    have f1 : ∀ x, s (406 + 13 * j + 1) x = σ (406 + 13 * j + 1) x := fun x => fr _ _ (by right; right; right; right; right; right; right; right; right; exact ⟨j, hj', by omega⟩)
    have f3 : ∀ x, s (406 + 13 * j + 3) x = σ (406 + 13 * j + 3) x := fun x => fr _ _ (by right; right; right; right; right; right; right; right; right; exact ⟨j, hj', by omega⟩)
    have f5 : ∀ n x, 5 ≤ n → n ≤ 10 → s (406 + 13 * j + n) x = σ (406 + 13 * j + n) x := fun n x y1 y2 => fr _ _ (by right; right; right; right; right; right; right; right; right; exact ⟨j, hj', by omega⟩)
    have s8 := fr 688 (24 + j) (by omega)
    have s9 := fr 689 (24 + j) (by omega)
    obtain ⟨o1, o2, o3, o4, o5, o6, o7, o8, o9, o10, o11⟩ := g2
    refine ⟨⟨⟨by rw [f1, s8]; exact g1.1.1, fun i hi => ?_⟩, ⟨by rw [f3, s9]; exact g1.2.1.1, fun i hi => ?_⟩, ⟨by rw [f5 5 1 (by omega) (by omega), s8]; exact g1.2.2.1, fun i hi => ?_⟩⟩, ⟨by rw [f1]; exact o1, by rw [f3]; exact o2, by rw [f5 5 1 (by omega) (by omega), f1]; exact o3, by rw [f5 7 1 (by omega) (by omega), f3]; exact o4, fun i hi => ?_, fun i hi => ?_, fun i i' y1 y2 y3 y4 => ?_, fun i hi => ?_, fun i hi => ?_, ?_⟩, ?_⟩
    · rw [s8] at hi
      show s (406 + 13 * j + 2) i = _
      rw [b2 j i hj', m2 j i hj' (by omega)]
      have e : σ (406 + 13 * j + 2) i = σ 685 (100 * (24 + j) + i) := g1.1.2 i hi
      rw [e]
    · rw [s9] at hi
      show s (406 + 13 * j + 4) i = _
      rw [b4 j i hj', m4 j i hj' (by omega)]
      have e : σ (406 + 13 * j + 4) i = σ 686 (100 * (24 + j) + i) := g1.2.1.2 i hi
      rw [e]
    · rw [s8] at hi
      show s (406 + 13 * j + 6) i = _
      rw [f5 6 i (by omega) (by omega), fr 687 _ (by omega)]
      exact g1.2.2.2 i hi
    · rw [f1] at hi
      rw [f5 6 i (by omega) (by omega), f3]
      rcases o5 i hi with z | z
      · exact Or.inl z
      · refine Or.inr ⟨z.1, z.2.1, by rw [f5 8 _ (by omega) (by omega)]; exact z.2.2.1, ?_⟩
        rw [b2 j i hj', b4 j _ hj', ← z.2.2.2]
        unfold edB edA
        by_cases hkj : k < j
        · have key : g (j - k - 1) = (i : Int) ↔ g (j - k) = (((σ (406 + 13 * j + 6) i).toNat : Nat) : Int) := by
            have es := hgs (j - k - 1)
            rw [show j - k - 1 + 1 = j - k by omega, show k + (j - k - 1) + 1 = j by omega] at es
            refine ⟨fun y => ?_, fun y => ?_⟩
            · rw [es, if_neg (by omega), y, show ((i : Nat) : Int).toNat = i by omega]
              omega
            · by_cases y2 : g (j - k - 1) = -1
              · rw [es, if_pos y2] at y
                omega
              · rw [es, if_neg y2] at y
                have gv := hgv (j - k - 1) (by omega)
                have hsm : σ (406 + 13 * j + 1) 1 = σ (406 + 13 * (k + (j - k - 1)) + 3) 1 := by
                  have := g3.1
                  unfold blw at this
                  rw [if_neg (by omega)] at this
                  rw [show k + (j - k - 1) = j - 1 by omega]
                  exact this
                have z2 := o5 (g (j - k - 1)).toNat (by omega)
                rcases z2 with z2 | z2
                · omega
                · have a := z2.2.2.1
                  have a' := z.2.2.1
                  rw [show (σ (406 + 13 * j + 6) (g (j - k - 1)).toNat).toNat = (σ (406 + 13 * j + 6) i).toNat by omega] at a
                  omega
          by_cases y : g (j - k - 1) = (i : Int)
          · rw [if_pos ⟨hkj, y⟩, if_pos ⟨by omega, key.mp y⟩]
          · rw [if_neg (fun e => y e.2), if_neg (fun e => y (key.mpr e.2))]
        · rw [if_neg (fun e => hkj e.1)]
          by_cases hkj2 : k = j
          · rw [if_neg]
            rintro ⟨-, y⟩
            rw [hkj2, Nat.sub_self, hg0] at y
            have := z.2.2.1
            rw [hkj2] at hb
            rw [show (σ (406 + 13 * j + 6) i).toNat = place by omega, hb] at this
            omega
          · rw [if_neg (fun e => by omega)]
    · rw [f3] at hi
      rw [f5 8 i (by omega) (by omega), f1]
      rcases o6 i hi with z | z
      · exact Or.inl z
      · exact Or.inr ⟨z.1, z.2.1, by rw [f5 6 _ (by omega) (by omega)]; exact z.2.2⟩
    · rw [f1] at y2
      rw [f5 6 i (by omega) (by omega)] at y3 ⊢
      rw [f5 6 i' (by omega) (by omega)] at y4 ⊢
      exact o7 i i' y1 y2 y3 y4
    · rw [f1] at hi
      rw [b2 j i hj']
      unfold edB
      split
      · exact hl
      · exact o8 i hi
    · rw [f3] at hi
      rw [b4 j i hj']
      unfold edA
      split
      · exact hl
      · exact o9 i hi
    · have e6 : s (406 + 13 * j + 6) = σ (406 + 13 * j + 6) := funext fun x => f5 6 x (by omega) (by omega)
      rw [e6, f1, f3, f5 9 1 (by omega) (by omega)]
      refine ⟨o10, fun q r hr => ?_⟩
      rw [f5 10 _ (by omega) (by omega), f5 10 _ (by omega) (by omega), f5 10 _ (by omega) (by omega), f5 10 _ (by omega) (by omega)]
      exact o11 q r hr
    · obtain ⟨t1, t2⟩ := g3
      by_cases y0 : j = 0
      · have hbl : blw j = 403 := by unfold blw; rw [if_pos y0]
        rw [hbl] at t1 t2 ⊢
        refine ⟨by rw [f1, fr 403 1 (by omega)]; exact t1, fun x hx => ?_⟩
        rw [f1] at hx
        show s (406 + 13 * j + 2) x = s 404 x
        rw [b2 j x hj', fr 404 x (by omega)]
        unfold edB
        rw [if_neg (fun e => by omega)]
        exact t2 x hx
      · have hbl : blw j = 406 + 13 * (j - 1) + 3 := by unfold blw; rw [if_neg y0]
        rw [hbl] at t1 t2 ⊢
        refine ⟨by rw [f1, fr _ 1 (by right; right; right; right; right; right; right; right; right; exact ⟨j - 1, by omega, by omega⟩)]; exact t1, fun x hx => ?_⟩
        rw [f1] at hx
        show s (406 + 13 * j + 2) x = s (406 + 13 * (j - 1) + 4) x
        have e : σ (406 + 13 * j + 2) x = σ (406 + 13 * (j - 1) + 4) x := t2 x hx
        rw [b2 j x hj', b4 (j - 1) x (by omega), e]
        unfold edB edA
        by_cases y : k < j ∧ g (j - k - 1) = (x : Int)
        · rw [if_pos y, if_pos ⟨by omega, by rw [show j - 1 - k = j - k - 1 by omega]; exact y.2⟩]
        · rw [if_neg y, if_neg (fun e => y ⟨by omega, by rw [show j - k - 1 = j - 1 - k by omega]; exact e.2⟩)]
/-- Pile.rewrite -/
theorem l131 {σ0 : Sg} {k h place : Nat} {l : Int} {g : Nat → Int} {d2 : Option AV} (h5 : h ≤ 5) (hh : σ0 402 3 = (h : Nat)) (hw : ∀ j, j < h → wR σ0 (406 + 13 * j + 1) ∧ wR σ0 (406 + 13 * j + 3) ∧ wR σ0 (406 + 13 * j + 5)) (hgs : ∀ d, g (d + 1) = if g d = -1 then -1 else σ0 (406 + 13 * (k + d + 1) + 6) (g d).toNat) (hgv : ∀ d, k + d < h → g d = -1 ∨ (0 ≤ g d ∧ g d < σ0 (406 + 13 * (k + d) + 3) 1)) (hsz : ∀ j, j + 1 < h → σ0 (406 + 13 * (j + 1) + 1) 1 = σ0 (406 + 13 * j + 3) 1 ∧ σ0 (406 + 13 * (j + 1) + 5) 1 = σ0 (406 + 13 * (j + 1) + 1) 1) : ∀ (w j : Nat) (σ : Sg), j + w = h → k < j → (∀ a x, ¬ (∃ j', j' < h ∧ (a = 406 + 13 * j' + 2 ∨ a = 406 + 13 * j' + 4)) → σ a x = σ0 a x) → (∀ j' x : Nat, j' < h → σ (406 + 13 * j' + 2) x = (if j' < j then edB g k l j' x (σ0 (406 + 13 * j' + 2) x) else σ0 (406 + 13 * j' + 2) x) ∧ σ (406 + 13 * j' + 4) x = (if j' < j then edA g k l j' x (σ0 (406 + 13 * j' + 4) x) else σ0 (406 + 13 * j' + 4) x)) → ∃ s, C131_10 k d2 l (g (j - k - 1)) j σ (rV s) ∧ (∀ a x, ¬ (∃ j', j' < h ∧ (a = 406 + 13 * j' + 2 ∨ a = 406 + 13 * j' + 4)) → s a x = σ0 a x) ∧ ∀ j' x : Nat, j' < h → s (406 + 13 * j' + 2) x = edB g k l j' x (σ0 (406 + 13 * j' + 2) x) ∧ s (406 + 13 * j' + 4) x = edA g k l j' x (σ0 (406 + 13 * j' + 4) x) := by
  have stay : ∀ d, g d = -1 → ∀ e, g (d + e) = -1 := by
    intro d hd e
    induction e with
    | zero => exact hd
    | succ e ih =>
      rw [show d + (e + 1) = (d + e) + 1 by omega, hgs, if_pos ih]
  intro w
  induction w with
  | zero =>
    intro j σ hj hkj hf hv
    refine ⟨σ, b131_10 ?_, hf, fun j' x hj' => ?_⟩
    · rw [hf 402 3 (by rintro ⟨j', y1, y2⟩; omega), hh, if_neg (by omega)]
    · have := hv j' x hj'
      rw [if_pos (by omega), if_pos (by omega)] at this
      exact this
  | succ w ih =>
    intro j σ hj hkj hf hv
    have e40 : σ 402 3 = (h : Nat) := by rw [hf 402 3 (by rintro ⟨j', y1, y2⟩; omega), hh]
    by_cases hn : g (j - k - 1) = -1
    · refine ⟨σ, b131_10 ?_, hf, fun j' x hj' => ?_⟩
      · rw [e40, if_pos (by omega), if_pos (by omega), if_pos hn]
      · have z := hv j' x hj'
        by_cases y : j' < j
        · rw [if_pos y, if_pos y] at z
          exact z
        · rw [if_neg y, if_neg y] at z
          have s1 := stay _ hn (j' - j)
          have s2 := stay _ hn (j' - j + 1)
          rw [show j - k - 1 + (j' - j) = j' - k - 1 by omega] at s1
          rw [show j - k - 1 + (j' - j + 1) = j' - k by omega] at s2
          rw [z.1, z.2]
          unfold edB edA
          rw [s1, s2, if_neg (fun e => by omega), if_neg (fun e => by omega)]
          exact ⟨rfl, rfl⟩
    · have gv := hgv (j - k - 1) (by omega)
      rw [show k + (j - k - 1) = j - 1 by omega] at gv
      have sz := hsz (j - 1) (by omega)
      rw [show j - 1 + 1 = j by omega] at sz
      have es := hgs (j - k - 1)
      rw [show j - k - 1 + 1 = j - k by omega, show k + (j - k - 1) + 1 = j by omega, if_neg hn] at es
      have gv2 := hgv (j - k) (by omega)
      rw [show k + (j - k) = j by omega] at gv2
      obtain ⟨w1, w3, w5⟩ := hw j (by omega)
      have hq := cpL (p := j) (by omega)
      have nf : ∀ a, (a = 406 + 13 * j + 1 ∨ a = 406 + 13 * j + 3 ∨ a = 406 + 13 * j + 5 ∨ a = 406 + 13 * j + 6) → ¬ (∃ j', j' < h ∧ (a = 406 + 13 * j' + 2 ∨ a = 406 + 13 * j' + 4)) := by
        rintro a ha ⟨j', y1, y2⟩
        omega
      have e148 := d148 (σ := σ) (a := 406 + 13 * j + 1) (i := g (j - k - 1)) (v := l) ⟨w1.1, by rw [hf _ _ (nf _ (by omega))]; exact w1.2⟩
      have est : stS σ (406 + 13 * j + 1) (g (j - k - 1)) l = upS σ (406 + 13 * j + 2) (g (j - k - 1)).toNat l := by
        unfold stS
        rw [if_pos]
        rw [hf _ _ (nf _ (by omega))]
        omega
      rw [est] at e148
      have e147 := d147 (σ := upS σ (406 + 13 * j + 2) (g (j - k - 1)).toNat l) (a := 406 + 13 * j + 5) (i := g (j - k - 1)) ⟨w5.1, by rw [up_a (by omega), hf _ _ (nf _ (by omega))]; exact w5.2⟩
      have eat : atS (upS σ (406 + 13 * j + 2) (g (j - k - 1)).toNat l) (406 + 13 * j + 5) (g (j - k - 1)) = g (j - k) := by
        unfold atS
        rw [up_a (by omega), hf _ _ (nf _ (by omega)), if_pos (by omega), up_a (by omega)]
        show σ (406 + 13 * j + 6) _ = _
        rw [hf _ _ (nf _ (by omega)), es]
      rw [eat] at e147
      obtain ⟨σ2, h2⟩ : ∃ σ2, σ2 = stS (upS σ (406 + 13 * j + 2) (g (j - k - 1)).toNat l) (406 + 13 * j + 3) (g (j - k)) l := ⟨_, rfl⟩
      have e148b := d148 (σ := upS σ (406 + 13 * j + 2) (g (j - k - 1)).toNat l) (a := 406 + 13 * j + 3) (i := g (j - k)) (v := l) ⟨w3.1, by rw [up_a (by omega), hf _ _ (nf _ (by omega))]; exact w3.2⟩
      rw [← h2] at e148b
      have v2 : ∀ a x, σ2 a x = if a = 406 + 13 * j + 4 ∧ g (j - k) = (x : Int) then l else if a = 406 + 13 * j + 2 ∧ g (j - k - 1) = (x : Int) then l else σ a x := by
        intro a x
        rw [h2]
        unfold stS
        rw [up_a (show ¬ 406 + 13 * j + 3 = 406 + 13 * j + 2 by omega), hf _ _ (nf (406 + 13 * j + 3) (by omega))]
        by_cases y : 0 ≤ g (j - k) ∧ g (j - k) < σ0 (406 + 13 * j + 3) 1
        · rw [if_pos y]
          by_cases y2 : a = 406 + 13 * j + 4 ∧ g (j - k) = (x : Int)
          · rw [if_pos y2]
            unfold upS
            rw [if_pos ⟨by omega, by omega⟩]
          · rw [if_neg y2]
            by_cases y3 : a = 406 + 13 * j + 2 ∧ g (j - k - 1) = (x : Int)
            · rw [if_pos y3]
              unfold upS
              rw [if_neg (by omega), if_pos ⟨by omega, by omega⟩]
            · rw [if_neg y3]
              unfold upS
              rw [if_neg (fun e => y2 ⟨by omega, by omega⟩), if_neg (fun e => y3 ⟨by omega, by omega⟩)]
        · rw [if_neg y, if_neg (fun e => y (by omega))]
          by_cases y3 : a = 406 + 13 * j + 2 ∧ g (j - k - 1) = (x : Int)
          · rw [if_pos y3]
            unfold upS
            rw [if_pos ⟨by omega, by omega⟩]
          · rw [if_neg y3]
            unfold upS
            rw [if_neg (fun e => y3 ⟨by omega, by omega⟩)]
      obtain ⟨s, a1, a2, a3⟩ := ih (j + 1) σ2 (by omega) (by omega) (fun a x hn => by
        rw [v2, if_neg (fun e => hn ⟨j, by omega, by omega⟩), if_neg (fun e => hn ⟨j, by omega, by omega⟩)]
        exact hf a x hn) (fun j' x hj' => by
        have z := hv j' x hj'
        have u2 : σ2 (406 + 13 * j' + 2) x = if j' = j ∧ g (j - k - 1) = (x : Int) then l else σ (406 + 13 * j' + 2) x := by
          rw [v2, if_neg (fun e => by omega)]
          by_cases y : j' = j ∧ g (j - k - 1) = (x : Int)
          · rw [if_pos y, if_pos ⟨by omega, y.2⟩]
          · rw [if_neg y, if_neg (fun e => y ⟨by omega, e.2⟩)]
        have u4 : σ2 (406 + 13 * j' + 4) x = if j' = j ∧ g (j - k) = (x : Int) then l else σ (406 + 13 * j' + 4) x := by
          rw [v2]
          by_cases y : j' = j ∧ g (j - k) = (x : Int)
          · rw [if_pos y, if_pos ⟨by omega, y.2⟩]
          · rw [if_neg y, if_neg (fun e => y ⟨by omega, e.2⟩), if_neg (fun e => by omega)]
        rw [u2, u4]
        by_cases y : j' = j
        · subst y
          rw [if_neg (Nat.lt_irrefl j'), if_neg (Nat.lt_irrefl j')] at z
          rw [if_pos (show j' < j' + 1 by omega), if_pos (show j' < j' + 1 by omega), z.1, z.2]
          unfold edB edA
          refine ⟨?_, ?_⟩
          · by_cases y2 : g (j' - k - 1) = (x : Int)
            · rw [if_pos ⟨rfl, y2⟩, if_pos ⟨hkj, y2⟩]
            · rw [if_neg (fun e => y2 e.2), if_neg (fun e => y2 e.2)]
          · by_cases y2 : g (j' - k) = (x : Int)
            · rw [if_pos ⟨rfl, y2⟩, if_pos ⟨by omega, y2⟩]
            · rw [if_neg (fun e => y2 e.2), if_neg (fun e => y2 e.2)]
        · rw [if_neg (show ¬ (j' = j ∧ g (j - k - 1) = (x : Int)) from fun e => y e.1), if_neg (show ¬ (j' = j ∧ g (j - k) = (x : Int)) from fun e => y e.1), z.1, z.2]
          by_cases y2 : j' < j
          · rw [if_pos y2, if_pos y2, if_pos (show j' < j + 1 by omega), if_pos (show j' < j + 1 by omega)]
            exact ⟨rfl, rfl⟩
          · rw [if_neg y2, if_neg y2, if_neg (show ¬ j' < j + 1 by omega), if_neg (show ¬ j' < j + 1 by omega)]
            exact ⟨rfl, rfl⟩)
      rw [show j + 1 - k - 1 = j - k by omega] at a1
      refine ⟨s, b131_10 ?_, a2, a3⟩
      rw [e40, if_pos (by omega), if_pos (by omega), if_neg hn, if_pos (by omega)]
      have hqE : qE 405 ((j : Nat) : Int).toNat (406 + 13 * j) = true := by
        rw [show ((j : Nat) : Int).toNat = j by omega]
        exact hq.2.2.2.2.2.2.2
      refine ⟨by omega, _, hqE, hq.2.2.2.2.2.2.1, _, e148, by omega, _, hqE, hq.2.2.2.2.2.2.1, _, _, e147, b131_74 ⟨by omega, _, hqE, hq.2.2.2.2.2.2.1, _, e148b, by omega, ?_⟩⟩
      rw [show (j : Int) + 1 = ((j + 1 : Nat) : Int) by omega]
      exact a1
end
-- DRAFT 87.edit2.lean
/-! edit, the reference and the call. -/
noncomputable section
/-- only the stack was changed -/
theorem Rel_S {σ s : Sg} {c : Int} (H : Rel c σ) (w : WF s) (hs : RSt (c + 1) s) (h : ∀ a x, KP a x → ¬ (402 ≤ a ∧ a ≤ 472) → ¬ (685 ≤ a ∧ a ≤ 687 ∧ 2400 ≤ x) → ¬ ((a = 688 ∨ a = 689) ∧ 24 ≤ x) → ¬ a = 710 → ¬ a = 711 → ¬ (a = 682 ∧ 39 ≤ x ∧ x ≤ 41) → s a x = σ a x) : Rel (c + 1) s := by
  obtain ⟨h1, h2, h3, h4, h5, h6, h7, h8, h9⟩ := H
  exact ⟨w, Zl_fr (fun k => h _ _ (kp_12 rfl) (by omega) (by omega) (by omega) (by omega) (by omega) (by omega)) h2, RT_fr (fun c k hc => h _ _ (kq_T hc) (by omega) (by omega) (by omega) (by omega) (by omega) (by omega)) h3, RB_fr (fun c k hc => h _ _ (kq_B hc) (by omega) (by omega) (by omega) (by omega) (by omega) (by omega)) h4, RP_fr2 (fun c k hc => h _ _ (kq_P3 hc) (by omega) (by omega) (by omega) (by omega) (by omega) (by omega)) h5, hs, RU_fr (fun c k hc => h _ _ (kq_U hc) (by omega) (by omega) (by omega) (by omega) (by omega) (by omega)) h7, RF_fr (fun c k hc => h _ _ (kq_F hc) (by omega) (by omega) (by omega) (by omega) (by omega) (by omega)) h8, RD_fr (fun c k hc => h _ _ (kq_D hc) (by omega) (by omega) (by omega) (by omega) (by omega) (by omega)) h9⟩
theorem l351 {σ0 : Sg} {k h place : Nat} {l had : Int} {g : Nat → Int} {d1 d2 d4 : Option AV} (h5 : h ≤ 5) (hh : σ0 682 40 = (h : Nat)) (hst : ∀ d, g d = -1 → g (d + 1) = -1) (hgs : ∀ d, k + d + 1 < h → ¬ g d = -1 → g (d + 1) = σ0 687 (100 * (24 + (k + d + 1)) + (g d).toNat)) (hgv : ∀ d, k + d < h → g d = -1 ∨ (0 ≤ g d ∧ g d < 100)) : ∀ (w j : Nat) (σ : Sg), j + w = h → k < j → (∀ a x, ¬ ((a = 685 ∨ a = 686) ∧ 2400 ≤ x ∧ x < 2400 + 100 * h) → σ a x = σ0 a x) → (∀ j' x : Nat, j' < h → x < 100 → σ 685 (100 * (24 + j') + x) = (if j' < j then edB g k l j' x (σ0 685 (100 * (24 + j') + x)) else σ0 685 (100 * (24 + j') + x)) ∧ σ 686 (100 * (24 + j') + x) = (if j' < j then edA g k l j' x (σ0 686 (100 * (24 + j') + x)) else σ0 686 (100 * (24 + j') + x))) → ∃ s, C351_116 d1 d2 l d4 had (g (j - k - 1)) j σ (rI had s) ∧ (∀ a x, ¬ ((a = 685 ∨ a = 686) ∧ 2400 ≤ x ∧ x < 2400 + 100 * h) → s a x = σ0 a x) ∧ ∀ j' x : Nat, j' < h → x < 100 → s 685 (100 * (24 + j') + x) = edB g k l j' x (σ0 685 (100 * (24 + j') + x)) ∧ s 686 (100 * (24 + j') + x) = edA g k l j' x (σ0 686 (100 * (24 + j') + x)) := by
  have stay : ∀ d, g d = -1 → ∀ e, g (d + e) = -1 := by
    intro d hd e
    induction e with
    | zero => exact hd
    | succ e ih =>
      rw [show d + (e + 1) = (d + e) + 1 by omega]
      exact hst _ ih
  intro w
  induction w with
  | zero =>
    intro j σ hj hkj hf hv
    refine ⟨σ, b351_116 ?_, hf, fun j' x hj' hx => ?_⟩
    · rw [hf 682 40 (by omega), hh, if_neg (by omega)]
    · have := hv j' x hj' hx
      rw [if_pos (show j' < j by omega), if_pos (show j' < j by omega)] at this
      exact this
  | succ w ih =>
    intro j σ hj hkj hf hv
    have e40 : σ 682 40 = (h : Nat) := by rw [hf 682 40 (by omega), hh]
    by_cases hn : g (j - k - 1) = -1
    · refine ⟨σ, b351_116 ?_, hf, fun j' x hj' hx => ?_⟩
      · rw [e40, if_pos (by omega), if_pos hn]
      · have z := hv j' x hj' hx
        by_cases y : j' < j
        · rw [if_pos y, if_pos y] at z
          exact z
        · rw [if_neg y, if_neg y] at z
          have s1 := stay _ hn (j' - j)
          have s2 := stay _ hn (j' - j + 1)
          rw [show j - k - 1 + (j' - j) = j' - k - 1 by omega] at s1
          rw [show j - k - 1 + (j' - j + 1) = j' - k by omega] at s2
          rw [z.1, z.2]
          unfold edB edA
          rw [s1, s2, if_neg (fun e => by omega), if_neg (fun e => by omega)]
          exact ⟨rfl, rfl⟩
    · have gv := hgv (j - k - 1) (by omega)
      have es := hgs (j - k - 1) (by omega) hn
      rw [show j - k - 1 + 1 = j - k by omega, show k + (j - k - 1) + 1 = j by omega] at es
      have gv2 := hgv (j - k) (by omega)
      obtain ⟨i, hi⟩ := Int.eq_ofNat_of_zero_le (show 0 ≤ g (j - k - 1) by omega)
      rw [hi, show ((i : Nat) : Int).toNat = i by omega] at es
      have ea : ((100 * (24 + (j : Int))) + ((i : Nat) : Int)).toNat = 100 * (24 + j) + i := by omega
      -- the state after the layer
      obtain ⟨σ2, h2⟩ : ∃ σ2 : Sg, σ2 = if g (j - k) = -1 then upS σ 685 (100 * (24 + j) + i) l else upS (upS σ 685 (100 * (24 + j) + i) l) 686 (100 * (24 + j) + (g (j - k)).toNat) l := ⟨_, rfl⟩
      have v2 : ∀ a x, σ2 a x = if a = 686 ∧ ((x : Nat) : Int) = 100 * (24 + (j : Int)) + g (j - k) ∧ ¬ g (j - k) = -1 then l else if a = 685 ∧ x = 100 * (24 + j) + i then l else σ a x := by
        intro a x
        rw [h2]
        by_cases y : g (j - k) = -1
        · rw [if_pos y, if_neg (fun e => e.2.2 y)]
          rfl
        · rw [if_neg y]
          by_cases y2 : a = 686 ∧ ((x : Nat) : Int) = 100 * (24 + (j : Int)) + g (j - k)
          · rw [if_pos ⟨y2.1, y2.2, y⟩]
            unfold upS
            rw [if_pos ⟨by omega, by omega⟩]
          · rw [if_neg (fun e => y2 ⟨e.1, e.2.1⟩)]
            unfold upS
            rw [if_neg (fun e => y2 ⟨by omega, by omega⟩)]
      obtain ⟨s, a1, a2, a3⟩ := ih (j + 1) σ2 (by omega) (by omega) (fun a x hne => by
        rw [v2, if_neg (fun e => hne (by omega)), if_neg (fun e => hne (by omega))]
        exact hf a x hne) (fun j' x hj' hx => by
        have z := hv j' x hj' hx
        have u2 : σ2 685 (100 * (24 + j') + x) = if j' = j ∧ x = i then l else σ 685 (100 * (24 + j') + x) := by
          rw [v2, if_neg (fun e => by omega)]
          by_cases y : j' = j ∧ x = i
          · rw [if_pos y, if_pos ⟨rfl, by omega⟩]
          · rw [if_neg y, if_neg (fun e => y (by omega))]
        have u4 : σ2 686 (100 * (24 + j') + x) = if j' = j ∧ g (j - k) = (x : Int) then l else σ 686 (100 * (24 + j') + x) := by
          rw [v2]
          by_cases y : j' = j ∧ g (j - k) = (x : Int)
          · rw [if_pos y, if_pos ⟨rfl, by omega, by omega⟩]
          · rw [if_neg y, if_neg (fun e => y (by omega)), if_neg (fun e => by omega)]
        rw [u2, u4]
        by_cases y : j' = j
        · subst y
          rw [if_neg (Nat.lt_irrefl j'), if_neg (Nat.lt_irrefl j')] at z
          rw [if_pos (show j' < j' + 1 by omega), if_pos (show j' < j' + 1 by omega), z.1, z.2]
          unfold edB edA
          rw [hi]
          refine ⟨?_, ?_⟩
          · by_cases y2 : x = i
            · rw [if_pos ⟨rfl, y2⟩, if_pos ⟨hkj, by omega⟩]
            · rw [if_neg (fun e => y2 e.2), if_neg (fun e => y2 (by omega))]
          · by_cases y2 : g (j' - k) = (x : Int)
            · rw [if_pos ⟨rfl, y2⟩, if_pos ⟨by omega, y2⟩]
            · rw [if_neg (fun e => y2 e.2), if_neg (fun e => y2 e.2)]
        · rw [if_neg (show ¬ (j' = j ∧ x = i) from fun e => y e.1), if_neg (show ¬ (j' = j ∧ g (j - k) = (x : Int)) from fun e => y e.1), z.1, z.2]
          by_cases y2 : j' < j
          · rw [if_pos y2, if_pos y2, if_pos (show j' < j + 1 by omega), if_pos (show j' < j + 1 by omega)]
            exact ⟨rfl, rfl⟩
          · rw [if_neg y2, if_neg y2, if_neg (show ¬ j' < j + 1 by omega), if_neg (show ¬ j' < j + 1 by omega)]
            exact ⟨rfl, rfl⟩)
      rw [show j + 1 - k - 1 = j - k by omega] at a1
      refine ⟨s, b351_116 ?_, a2, a3⟩
      have e687 : (upS σ 685 (100 * (24 + j) + i) l) 687 (100 * (24 + j) + i) = g (j - k) := by
        rw [up_a (by decide), hf _ _ (by omega), es]
      have z189 : C351_189 d1 d2 l d4 had (g (j - k)) j σ2 (rI had s) := b351_189 ⟨by omega, by
        rw [show (j : Int) + 1 = ((j + 1 : Nat) : Int) by omega]
        exact a1⟩
      rw [e40, if_pos (by omega), if_neg hn, hi, ea, e687]
      refine ⟨by omega, by omega, by omega, by omega, by omega, by omega, by omega, by omega, ?_⟩
      by_cases y : g (j - k) = -1
      · rw [if_pos y]
        rw [h2, if_pos y] at z189
        exact z189
      · rw [if_neg y, show ((100 * (24 + (j : Int))) + g (j - k)).toNat = 100 * (24 + j) + (g (j - k)).toNat by omega]
        rw [h2, if_neg y] at z189
        exact ⟨by omega, by omega, by omega, by omega, z189⟩
theorem o34 {σ : Sg} {c a1 a2 a3 : Int} (H : Rel c σ) : OpR 423 351 [vA 0, vI a1, vI a2, vI a3, vA 726] [vA 682, vI a1, vI a2, vI a3] σ (c + 1) := by
  by_cases g1 : a1 < 0
  · exact x34_0 H g1
  by_cases g2 : σ 402 3 ≤ a1
  · exact x34_1 H g2
  have k1 : 0 ≤ a1 ∧ a1 < σ 402 3 := by omega
  obtain ⟨n4, n5, n6⟩ := (rel_n H).2.1
  obtain ⟨k, rfl⟩ := Int.eq_ofNat_of_zero_le k1.1
  obtain ⟨h, hh⟩ := Int.eq_ofNat_of_zero_le n5
  have hS := H.2.2.2.2.2.1
  have hL := cpL (p := k) (by omega)
  have hPk := hL.2.2.2.2.2.2.1
  have e231 := d231_ok k1 n6
  rw [show ((k : Int)).toNat = k by omega] at e231
  obtain ⟨r1, r2, r3⟩ := hS.2.2.2.2.2.2.2.2.2.2 k (by omega)
  have b16 := PR_16 r1 r2
  have w3 := H.1 _ (pat_3 hPk)
  have w1 := H.1 _ (pat_1 hPk)
  have e146 := d146 (σ := σ) (pat_3 hPk)
  have m340 : ∀ {s : Sg}, s 682 40 = σ 682 40 → Dd 340 [vA 682, vI k] s (rI 1 s) := fun h => d340_ok (by omega)
  by_cases g3 : 0 ≤ a2 ∧ a2 < σ (406 + 13 * k + 3) 1
  · obtain ⟨place, rfl⟩ := Int.eq_ofNat_of_zero_le g3.1
    have mB : ∀ {s : Sg} {o : Rs}, s 682 40 = σ 682 40 → s 689 (24 + k) = σ 689 (24 + k) → C351_29 k place a3 none none none none 1 s o → Dd 351 [vA 682, vI k, vI place, vI a3] s o := by
      intro s o z1 z2 hh
      refine b351 ⟨_, _, m340 z1, ?_⟩
      rw [if_neg (show ¬ (1 : Int) = 0 by decide)]
      refine ⟨by omega, by omega, _, _, d246, ?_⟩
      rw [show (24 + (k : Int)).toNat = 24 + k by omega, if_pos (show 0 ≤ (place : Int) ∧ (place : Int) < s 689 (24 + k) by omega), if_neg (show ¬ (1 : Int) = 0 by decide)]
      exact hh
    by_cases g4 : isLn a3 = true
    · -- the inverse
      obtain ⟨nb, hnb⟩ := Int.eq_ofNat_of_zero_le w1.1
      obtain ⟨na, hna⟩ := Int.eq_ofNat_of_zero_le w3.1
      have N := NP_of r2 hnb hna
      have mI : ∀ {s : Sg}, (∀ a x, 685 ≤ a → a ≤ 689 → s a x = σ a x) → ∃ s', Dd 350 [vA 682, vI (24 + k : Nat), vI place] s (rI (if σ (406 + 13 * k + 8) place = -1 then 1 else 0) s') ∧ ∀ a x, ¬ a = 690 → s' a x = s a x := by
        intro s hs
        obtain ⟨s', c1, c2, c3⟩ := d293 (s := 24 + k) (nb := nb) (na := na) (F := σ (406 + 13 * k + 6)) (K := σ (406 + 13 * k + 8)) (σ := s) (by omega) (by omega) (by omega) N.2.2.2.2.1 N.2.2.2.2.2.1 (by rw [hs _ _ (by decide) (by decide)]; omega) (by rw [hs _ _ (by decide) (by decide)]; omega) (fun x hx => by
          rw [hs _ _ (by decide) (by decide)]
          exact (r1.2.2.2 x (by omega)).symm)
        refine ⟨s', b350 ⟨_, c1, by omega, ?_⟩, c3⟩
        rw [show ((place : Nat) : Int).toNat = place by omega, c2 place (by omega)]
      have a7 : Dd 147 [vA (406 + 13 * k + 7), vI place] σ (rI (σ (406 + 13 * k + 8) place) σ) := by
        have e := d147 (σ := σ) (i := (place : Int)) (WF_w H.1 (pat_7 hPk))
        rw [at_on (n := na) (f := σ (406 + 13 * k + 8)) N.2.2.2.1 (fun _ _ => rfl) (by omega)] at e
        exact e
      by_cases g5 : σ (406 + 13 * k + 8) place = -1
      · -- the edit
        obtain ⟨g, hg⟩ : ∃ g, g = gp (fun j i => σ (406 + 13 * j + 6) i) k place := ⟨_, rfl⟩
        have hg0 : g 0 = (place : Nat) := by rw [hg]; rfl
        have hgs : ∀ d, g (d + 1) = if g d = -1 then -1 else σ (406 + 13 * (k + d + 1) + 6) (g d).toNat := by
          intro d; rw [hg]; rfl
        have hsz : ∀ j, j + 1 < h → σ (406 + 13 * (j + 1) + 1) 1 = σ (406 + 13 * j + 3) 1 ∧ σ (406 + 13 * (j + 1) + 5) 1 = σ (406 + 13 * (j + 1) + 1) 1 := by
          intro j hj
          obtain ⟨q1, q2, q3⟩ := hS.2.2.2.2.2.2.2.2.2.2 (j + 1) (by omega)
          have := q3.1
          unfold blw at this
          rw [if_neg (by omega), Nat.add_sub_cancel] at this
          exact ⟨this, q2.2.2.1⟩
        have hgv : ∀ d, k + d < h → g d = -1 ∨ (0 ≤ g d ∧ g d < σ (406 + 13 * (k + d) + 3) 1) := by
          intro d
          induction d with
          | zero => intro _; right; rw [hg0]; exact g3
          | succ d ih =>
            intro hd
            rw [hgs]
            by_cases y : g d = -1
            · rw [if_pos y]; exact Or.inl rfl
            · rw [if_neg y]
              rcases ih (by omega) with z | z
              · exact absurd z y
              · obtain ⟨q1, q2, q3⟩ := hS.2.2.2.2.2.2.2.2.2.2 (k + d + 1) (by omega)
                have sz := (hsz (k + d) (by omega)).1
                rcases q2.2.2.2.2.1 (g d).toNat (by omega) with z2 | z2
                · exact Or.inl z2
                · exact Or.inr ⟨z2.1, z2.2.1⟩
        have h16 : ∀ d, k + d < h → g d = -1 ∨ (0 ≤ g d ∧ g d < 100) := by
          intro d hd
          have q2 := (hS.2.2.2.2.2.2.2.2.2.2 (k + d) (by omega)).2.1.2.1
          have := hgv d hd
          omega
        have hpk : ∀ j, j < h → isPatch (406 + 13 * j) = true := fun j hj => (cpL (p := j) (by omega)).2.2.2.2.2.2.1
        -- the class: the layer itself first
        obtain ⟨s, c1, c2, c3⟩ := l131 (σ0 := σ) (k := k) (h := h) (place := place) (l := a3) (g := g) (d2 := some (vI place)) (by omega) hh (fun j hj => ⟨WF_w H.1 (pat_1 (hpk j hj)), WF_w H.1 (pat_3 (hpk j hj)), WF_w H.1 (pat_5 (hpk j hj))⟩) hgs hgv hsz (h - (k + 1)) (k + 1) (upS σ (406 + 13 * k + 4) place a3) (by omega) (by omega) (fun a x hne => up_a (fun e => hne ⟨k, by omega, by omega⟩)) (fun j' x hj' => by
          unfold edB edA
          refine ⟨?_, ?_⟩
          · rw [up_a (by omega)]
            by_cases y : j' < k + 1
            · rw [if_pos y, if_neg (fun e => by omega)]
            · rw [if_neg y]
          · by_cases y : j' = k
            · subst y
              rw [if_pos (Nat.lt_succ_self j'), Nat.sub_self, hg0]
              by_cases y2 : x = place
              · rw [y2, up_s, if_pos ⟨Nat.le_refl _, rfl⟩]
              · rw [up_k y2, if_neg (fun e => by omega)]
            · rw [up_a (by omega)]
              by_cases y3 : j' < k + 1
              · rw [if_pos y3, if_neg (fun e => by omega)]
              · rw [if_neg y3])
        rw [show k + 1 - k - 1 = 0 by omega, hg0] at c1
        have d131 : Dd 131 [vA 402, vI k, vI place, vI a3] σ (rV s) := by
          refine b131 ?_
          rw [show (if 0 < (k : Int) then (k : Int) else 0) = (k : Int) by split <;> omega]
          have hqE : qE 405 ((k : Nat) : Int).toNat (406 + 13 * k) = true := by
            rw [show ((k : Nat) : Int).toNat = k by omega]
            exact hL.2.2.2.2.2.2.2
          have e148 := d148 (σ := σ) (a := 406 + 13 * k + 3) (i := (place : Int)) (v := a3) (WF_w H.1 (pat_3 hPk))
          rw [st_in (n := na) hna (by omega)] at e148
          refine b131_10 ?_
          rw [if_pos k1.2, if_pos (by omega), if_neg (by omega), if_neg (Int.lt_irrefl _)]
          refine b131_74 ⟨by omega, _, hqE, hPk, _, e148, by omega, ?_⟩
          rw [show (k : Int) + 1 = ((k + 1 : Nat) : Int) by omega]
          exact c1
        have a3' : Dd 147 [vA (406 + 13 * k + 3), vI place] σ (rI (σ (406 + 13 * k + 4) place) σ) := by
          have e := d147 (σ := σ) (i := (place : Int)) (WF_w H.1 (pat_3 hPk))
          rw [at_on (n := na) (f := σ (406 + 13 * k + 4)) hna (fun _ _ => rfl) (by omega)] at e
          exact e
        have hA := b423 (Or.inl ⟨_, _, b206 (Or.inl ⟨_, _, e231, hPk, _, _, e146, Or.inl ⟨_, d232_ok g3, Or.inl ⟨_, d235_t g4, _, _, a7, by
          rw [if_pos g5]
          exact ⟨_, _, a3', _, d131, rfl⟩⟩⟩⟩), rfl⟩)
        -- the reference
        have nex : ∀ a, 472 < a → ¬ (∃ j', j' < h ∧ (a = 406 + 13 * j' + 2 ∨ a = 406 + 13 * j' + 4)) := by
          rintro a ha ⟨j', y1, y2⟩
          omega
        have s0 : ∀ a x, 682 ≤ a → upS s 726 ((0 : Int).toNat) (σ (406 + 13 * k + 4) place) a x = if a = 726 ∧ x = 0 then σ (406 + 13 * k + 4) place else σ a x := by
          intro a x ha
          unfold upS
          by_cases y : a = 726 ∧ x = (0 : Int).toNat
          · rw [if_pos y, if_pos ⟨y.1, y.2⟩]
          · rw [if_neg y, if_neg (fun e => y ⟨e.1, e.2⟩)]
            exact c2 a x (nex a (by omega))
        obtain ⟨s1, hs1⟩ : ∃ s1, s1 = upS s 726 ((0 : Int).toNat) (σ (406 + 13 * k + 4) place) := ⟨_, rfl⟩
        rw [← hs1] at hA s0
        have s1m : ∀ a x, 682 ≤ a → ¬ a = 726 → s1 a x = σ a x := fun a x y1 y2 => by rw [s0 a x y1, if_neg (fun e => y2 e.1)]
        have s1c : ∀ a x, a < 682 → s1 a x = s a x := fun a x y => by rw [hs1, up_a (by omega)]
        obtain ⟨t1, x1, x2⟩ := mI (s := s1) (fun a x y1 y2 => s1m a x (by omega) (by omega))
        have t1m : ∀ a x, 682 ≤ a → ¬ a = 726 → ¬ a = 690 → upS t1 682 0 0 a x = if a = 682 ∧ x = 0 then 0 else σ a x := by
          intro a x y1 y2 y3
          unfold upS
          by_cases y : a = 682 ∧ x = 0
          · rw [if_pos y, if_pos y]
          · rw [if_neg y, if_neg y, x2 a x y3]
            exact s1m a x y1 y2
        have m687 : ∀ j i : Nat, j < h → (i : Int) < σ (406 + 13 * j + 1) 1 → σ 687 (100 * (24 + j) + i) = σ (406 + 13 * j + 6) i := by
          intro j i hj hi
          obtain ⟨q1, q2, q3⟩ := hS.2.2.2.2.2.2.2.2.2.2 j (by omega)
          have b := PR_16 q1 q2
          exact (q1.2.2.2 i (by omega)).symm
        obtain ⟨u, hu⟩ : ∃ u, u = upS t1 682 0 0 := ⟨_, rfl⟩
        rw [← hu] at t1m
        have u40 : u 682 40 = (h : Nat) := by rw [t1m _ _ (by decide) (by decide) (by decide), if_neg (by omega)]; omega
        have hadv : u 686 (100 * (24 + k) + place) = σ (406 + 13 * k + 4) place := by
          rw [t1m _ _ (by decide) (by decide) (by decide), if_neg (by omega)]
          exact (r1.2.1.2 place (by omega)).symm
        obtain ⟨s2, y1, y2, y3⟩ := l351 (σ0 := u) (k := k) (h := h) (place := place) (l := a3) (had := σ (406 + 13 * k + 4) place) (g := g) (d1 := some (vI k)) (d2 := some (vI place)) (d4 := some (vI 1)) (by omega) u40 (fun d hd => by rw [hgs, if_pos hd]) (fun d hd hne => by
          rw [hgs, if_neg hne, t1m _ _ (by decide) (by decide) (by decide), if_neg (by omega)]
          rcases hgv d (by omega) with z | z
          · exact absurd z hne
          · exact (m687 (k + d + 1) _ (by omega) (by rw [(hsz (k + d) (by omega)).1]; omega)).symm) h16 (h - (k + 1)) (k + 1) (upS u 686 (100 * (24 + k) + place) a3) (by omega) (by omega) (fun a x hne => by
          unfold upS
          rw [if_neg (by omega)]) (fun j' x hj' hx => by
          unfold edB edA
          refine ⟨?_, ?_⟩
          · rw [up_a (by decide)]
            by_cases y : j' < k + 1
            · rw [if_pos y, if_neg (fun e => by omega)]
            · rw [if_neg y]
          · by_cases y : j' = k
            · subst y
              rw [if_pos (Nat.lt_succ_self j'), Nat.sub_self, hg0]
              by_cases y2 : x = place
              · rw [y2, up_s, if_pos ⟨Nat.le_refl _, rfl⟩]
              · rw [up_k (by omega), if_neg (fun e => by omega)]
            · rw [up_k (by omega)]
              by_cases y3 : j' < k + 1
              · rw [if_pos y3, if_neg (fun e => by omega)]
              · rw [if_neg y3])
        rw [show k + 1 - k - 1 = 0 by omega, hg0] at y1
        have hB : Dd 351 [vA 682, vI k, vI place, vI a3] s1 (rI (σ (406 + 13 * k + 4) place) s2) := by
          refine mB (s1m _ _ (by decide) (by decide)) (s1m _ _ (by decide) (by decide)) (b351_29 ?_)
          rw [if_neg (show ¬ (1 : Int) = 0 by decide)]
          refine ⟨_, _, d250, ?_⟩
          rw [if_pos g4, if_neg (show ¬ (1 : Int) = 0 by decide), show 24 + (k : Int) = ((24 + k : Nat) : Int) by omega]
          refine ⟨by omega, _, _, x1, ?_⟩
          rw [if_pos g5, if_neg (show ¬ (1 : Int) = 0 by decide)]
          refine b351_69 ⟨_, _, d245, ?_⟩
          rw [if_pos rfl, if_neg (show ¬ (1 : Int) = 0 by decide), ← hu, show ((100 * (24 + (k : Int))) + (place : Int)).toNat = 100 * (24 + k) + place by omega, hadv, show (k : Int) + 1 = ((k + 1 : Nat) : Int) by omega]
          exact ⟨by omega, by omega, by omega, by omega, by omega, by omega, by omega, by omega, by omega, y1⟩
        have s2c : ∀ a x, a < 682 → s2 a x = s a x := fun a x y => by
          rw [y2 a x (by omega), hu, up_a (by omega), x2 a x (by omega)]
          exact s1c a x y
        have s2m : ∀ a x, 682 ≤ a → ¬ a = 726 → ¬ a = 690 → ¬ (a = 682 ∧ x = 0) → ¬ ((a = 685 ∨ a = 686) ∧ 2400 ≤ x ∧ x < 2400 + 100 * h) → s2 a x = σ a x := fun a x z1 z2 z3 z4 z5 => by rw [y2 a x z5, t1m a x z1 z2 z3, if_neg z4]
        have W2 : WF s2 := WF_e (fun a ha => by
          rw [s2c a 1 (row_lt ha)]
          refine c2 a 1 ?_
          rintro ⟨j', z1, z2⟩
          rcases z2 with z2 | z2
          · exact row_nx (pat_1 (hpk j' z1)) ha z2
          · exact row_nx (pat_3 (hpk j' z1)) ha z2) H.1
        have nl : ∀ a, ¬ (402 ≤ a ∧ a ≤ 472) → ¬ (∃ j', j' < h ∧ (a = 406 + 13 * j' + 2 ∨ a = 406 + 13 * j' + 4)) := by
          rintro a ha ⟨j', z1, z2⟩
          omega
        refine op_fin hA hB ?_ (fun _ => ?_) (fun a x ha => ?_) (fun a x ha => ?_) (Rel_S H W2 (RSt_ed hS hh (by omega) hg0 hgs hgv g5 g4 (fun a x ha => ?_) (fun j x hj => by rw [s2c _ _ (by omega)]; exact (c3 j x hj).1) (fun j x hj => by rw [s2c _ _ (by omega)]; exact (c3 j x hj).2) (fun j x hj hx => ?_) (fun j x hj hx => ?_)) (fun a x z1 z2 z3 z4 z5 z6 z7 => ?_))
        · rw [y2 _ _ (by omega), hu, up_s]
        · rw [y2 _ _ (by omega), hu, up_a (by decide), x2 _ _ (by decide), s0 _ _ (by decide), if_pos ⟨rfl, rfl⟩]
        · rw [s0 a x (by omega), if_neg (by omega)]
        · exact s2m a x (by omega) (by omega) (by omega) (by omega) (by omega)
        · by_cases z : a < 682
          · rw [s2c a x z]
            refine c2 a x ?_
            rintro ⟨j', z1, z2⟩
            rcases ha with ha | ha | ha | ha | ha | ha | ha | ha | ha | ⟨j, ha1, ha2⟩ <;> omega
          · refine s2m a x (by omega) ?_ ?_ ?_ ?_ <;> (rcases ha with ha | ha | ha | ha | ha | ha | ha | ha | ha | ⟨j, ha1, ha2⟩ <;> omega)
        · rw [(y3 j x hj hx).1, t1m _ _ (by decide) (by decide) (by decide), if_neg (by omega)]
        · rw [(y3 j x hj hx).2, t1m _ _ (by decide) (by decide) (by decide), if_neg (by omega)]
        · by_cases z : a < 682
          · rw [s2c a x z]
            exact c2 a x (nl a z2)
          · exact s2m a x (by omega) (by omega) (by omega) (by omega) (by omega)
      · -- the line is paired
        have hA := b423 (x1 := (k : Int)) (x2 := (place : Int)) (x3 := a3) (Or.inr (Or.inr (Or.inr ⟨_, b206 (Or.inl ⟨_, _, e231, hPk, _, _, e146, Or.inl ⟨_, d232_ok g3, Or.inl ⟨_, d235_t g4, _, _, a7, by
          rw [if_neg g5]⟩⟩⟩), rfl⟩)))
        obtain ⟨t1, x1, x2⟩ := mI (s := σ) (fun _ _ _ _ => rfl)
        have hoff : ∀ a x, ¬ a = 690 → ¬ (a = 682 ∧ x = 0) → upS t1 682 0 3 a x = σ a x := fun a x z1 z2 => by
          unfold upS
          rw [if_neg z2]
          exact x2 a x z1
        refine op_fin hA (b := 0) (s2 := upS t1 682 0 3) (mB rfl rfl (b351_29 ?_)) up_s (fun e => absurd e (by decide)) (fun a x ha => rfl) (fun a x ha => hoff a x (by omega) (by omega)) (Rel_sc (by omega) (WF_fr (fun a x ha => hoff a x (by omega) (by omega)) H.1) (fun a x hk => hoff a x (by omega) (by omega)) H)
        rw [if_neg (show ¬ (1 : Int) = 0 by decide)]
        refine ⟨_, _, d250, ?_⟩
        rw [if_pos g4, if_neg (show ¬ (1 : Int) = 0 by decide), show 24 + (k : Int) = ((24 + k : Nat) : Int) by omega]
        refine ⟨by omega, _, _, x1, ?_⟩
        rw [if_neg g5, if_pos rfl]
        refine b351_69 ⟨_, _, d245, ?_⟩
        rw [if_neg (show ¬ (3 : Int) = 0 by decide), if_pos rfl]
    · -- it is no line
      refine op_x H (kx := 2) (b := 0) (by decide) (b423 (Or.inr (Or.inr (Or.inl ⟨_, b206 (Or.inl ⟨_, _, e231, hPk, _, _, e146, Or.inl ⟨_, d232_ok g3, Or.inr ⟨_, _, d235_f g4, rfl⟩⟩⟩), rfl⟩)))) (mB rfl rfl (b351_29 ?_))
      rw [if_neg (show ¬ (1 : Int) = 0 by decide)]
      refine ⟨_, _, d250, ?_⟩
      rw [if_neg g4, if_pos rfl]
      refine b351_69 ⟨_, _, d245, ?_⟩
      rw [if_neg (show ¬ (2 : Int) = 0 by decide), if_pos rfl]
  · -- no such place
    have e232 : Dd 232 [vA 0, vI a2, vI (σ (406 + 13 * k + 3) 1)] σ (rX 0 σ) := by
      refine b232 ?_
      by_cases y : 0 ≤ a2
      · rw [if_pos y, if_pos (by omega)]; exact b232_9 rfl
      · rw [if_neg y]; exact b232_9 rfl
    refine op_x H (kx := 1) (b := 0) (by decide) (b423 (Or.inr (Or.inl ⟨_, b206 (Or.inl ⟨_, _, e231, hPk, _, _, e146, Or.inr ⟨_, _, e232, rfl⟩⟩), rfl⟩))) (b351 ⟨_, _, m340 rfl, ?_⟩)
    rw [if_neg (show ¬ (1 : Int) = 0 by decide)]
    refine ⟨by omega, by omega, _, _, d246, ?_⟩
    rw [show (24 + (k : Int)).toNat = 24 + k by omega, if_neg (show ¬ (0 ≤ a2 ∧ a2 < σ 689 (24 + k)) by omega), if_pos rfl]
    refine b351_28 (b351_29 ?_)
    rw [if_pos rfl]
    refine b351_69 ⟨_, _, d245, ?_⟩
    rw [if_neg (show ¬ (1 : Int) = 0 by decide), if_pos rfl]
end
-- DRAFT 88.fold.lean
/-! fold. -/
noncomputable section
/-- a patch of one state has the rows of a patch of another -/
def SMR (σ' : Sg) (P : Nat) (σ : Sg) (Q : Nat) : Prop := ∀ j, j = 1 ∨ j = 3 ∨ j = 5 ∨ j = 7 ∨ j = 9 → σ' (P + j) 1 = σ (Q + j) 1 ∧ ∀ k : Nat, (k : Int) < σ (Q + j) 1 → σ' (P + j + 1) k = σ (Q + j + 1) k
theorem cpLj {p j : Nat} (h : p + 1 < 5) (hj : j = 1 ∨ j = 3 ∨ j = 5 ∨ j = 7 ∨ j = 9) : cap (406 + 13 * (p + 1) + j) = cap (406 + 13 * p + j) ∧ isRow (406 + 13 * (p + 1) + j) = true := by
  have h2 : ∀ m, m < 4 → ∀ j, j < 10 → (j = 1 ∨ j = 3 ∨ j = 5 ∨ j = 7 ∨ j = 9) → cap (406 + 13 * (m + 1) + j) = cap (406 + 13 * m + j) ∧ isRow (406 + 13 * (m + 1) + j) = true := by decide +kernel
  exact h2 p (by omega) j (by omega) hj
theorem l130 {σ0 : Sg} {k1 h : Nat} (h5 : h ≤ 5) (hh : σ0 402 3 = (h : Nat)) : ∀ (w j : Nat) (σ : Sg), j + 1 + w = h → k1 ≤ j → WF σ → (∀ j', k1 ≤ j' → j' < j → SMR σ (406 + 13 * j') σ0 (406 + 13 * (j' + 1))) → (∀ c x, ¬ (406 + 13 * k1 + 1 ≤ c ∧ c < 406 + 13 * j) → σ c x = σ0 c x) → ∃ s, (∀ {o : Rs}, (∀ d2, C130_59 k1 d2 s o) → C130_15 k1 j σ o) ∧ WF s ∧ (∀ j', k1 ≤ j' → j' < h - 1 → SMR s (406 + 13 * j') σ0 (406 + 13 * (j' + 1))) ∧ ∀ c x, ¬ (406 + 13 * k1 + 1 ≤ c ∧ c < 406 + 13 * (h - 1)) → s c x = σ0 c x := by
  intro w
  induction w with
  | zero =>
    intro j σ hj hk W I2 I3
    have e : j = h - 1 := by omega
    subst e
    refine ⟨σ, fun {o} hh2 => b130_15 ⟨by omega, ?_⟩, W, I2, I3⟩
    rw [I3 402 3 (by omega), hh, if_neg (by omega)]
    exact hh2 _
  | succ w ih =>
    intro j σ hj hk W I2 I3
    have hq := cpL (p := j) (by omega)
    have hq1 := cpL (p := j + 1) (by omega)
    have pj := hq.2.2.2.2.2.2.1
    have pj1 := hq1.2.2.2.2.2.2.1
    obtain ⟨s, a1, a2, a3, a4⟩ := ih (j + 1) (pbS σ (406 + 13 * j) (406 + 13 * (j + 1))) (by omega) (by omega) (WF_pb pj pj1 W) (fun j' h1 h2 => by
      by_cases e : j' = j
      · subst e
        intro m hm
        have wr := W _ (cpLj (p := j') (by omega) hm).2
        have z := pb_row (σ := σ) (P := 406 + 13 * j') (Q := 406 + 13 * (j' + 1)) (j := m) (by omega) hm (by rw [← (cpLj (p := j') (by omega) hm).1]; exact wr.2)
        rw [I3 (406 + 13 * (j' + 1) + m) 1 (by omega)] at z
        refine ⟨z.1, fun x hx => ?_⟩
        rw [z.2 x hx]
        exact I3 _ x (by omega)
      · intro m hm
        have z := I2 j' h1 (by omega) m hm
        rw [pb_off (by omega)]
        refine ⟨z.1, fun x hx => ?_⟩
        rw [pb_off (by omega)]
        exact z.2 x hx) (fun c x hc => by
      rw [pb_off (by omega)]
      exact I3 c x (by omega))
    refine ⟨s, fun {o} hh2 => b130_15 ⟨by omega, ?_⟩, a2, a3, a4⟩
    rw [I3 402 3 (by omega), hh, if_pos (by omega)]
    refine ⟨by omega, ?_⟩
    rw [if_pos (by omega)]
    refine ⟨by omega, 406 + 13 * j, by rw [show ((j : Nat) : Int).toNat = j by omega]; exact hq.2.2.2.2.2.2.2, pj, by omega, by omega, 406 + 13 * (j + 1), by rw [show ((j : Int) + 1).toNat = j + 1 by omega]; exact hq1.2.2.2.2.2.2.2, pj1, _, d96 pj pj1 (by omega) (WF_pw W), by omega, ?_⟩
    rw [show (j : Int) + 1 = ((j + 1 : Nat) : Int) by omega]
    exact a1 hh2
/-- a slot of one state is a slot of another -/
def SSL (σ' : Sg) (t : Nat) (σ : Sg) (s : Nat) : Prop := (∀ c x, 685 ≤ c ∧ c ≤ 687 → x < 100 → σ' c (100 * t + x) = σ c (100 * s + x)) ∧ σ' 688 t = σ 688 s ∧ σ' 689 t = σ 689 s
theorem SSL_cpy {σ : Sg} {s t : Nat} : SSL (cpyS σ s t) t σ s := ⟨fun c x hc hx => cpy_val hx hc, by rw [cpy_n1, if_pos rfl], by rw [cpy_n2, if_pos rfl]⟩
theorem cpy_slot {σ : Sg} {s t u : Nat} (h : ¬ u = t) : SSL (cpyS σ s t) u σ u := ⟨fun c x hc hx => cpy_other h hx hc, by rw [cpy_n1, if_neg h], by rw [cpy_n2, if_neg h]⟩
theorem SSL_t {σ1 σ2 σ3 : Sg} {a b c : Nat} (h1 : SSL σ1 a σ2 b) (h2 : SSL σ2 b σ3 c) : SSL σ1 a σ3 c := ⟨fun q x hq hx => by rw [h1.1 q x hq hx]; exact h2.1 q x hq hx, by rw [h1.2.1]; exact h2.2.1, by rw [h1.2.2]; exact h2.2.2⟩
theorem SSL_eq {σ' σ : Sg} {t : Nat} (h : ∀ c x, 685 ≤ c ∧ c ≤ 689 → σ' c x = σ c x) : SSL σ' t σ t := ⟨fun c x hc _ => h c _ (by omega), h _ _ (by omega), h _ _ (by omega)⟩
theorem l349 {σ0 : Sg} {k1 hm : Nat} {d1 : Option AV} (h5 : hm < 5) (hh : σ0 682 40 = (hm : Nat)) : ∀ (w j : Nat) (σ : Sg), j + w = hm → k1 ≤ j → (∀ j', k1 ≤ j' → j' < j → SSL σ (24 + j') σ0 (24 + (j' + 1)) ∧ σ 711 j' = σ0 711 (j' + 1)) → (∀ u, ¬ (24 + k1 ≤ u ∧ u < 24 + j) → u < 44 → SSL σ u σ0 u) → (∀ x, ¬ (k1 ≤ x ∧ x < j) → σ 711 x = σ0 711 x) → (∀ c x, ¬ (685 ≤ c ∧ c ≤ 689) → ¬ c = 711 → σ c x = σ0 c x) → ∃ s, C349_72 d1 j σ (rI (hm : Nat) s) ∧ (∀ j', k1 ≤ j' → j' < hm → SSL s (24 + j') σ0 (24 + (j' + 1)) ∧ s 711 j' = σ0 711 (j' + 1)) ∧ (∀ u, ¬ (24 + k1 ≤ u ∧ u < 24 + hm) → u < 44 → SSL s u σ0 u) ∧ (∀ x, ¬ (k1 ≤ x ∧ x < hm) → s 711 x = σ0 711 x) ∧ ∀ c x, ¬ (685 ≤ c ∧ c ≤ 689) → ¬ c = 711 → s c x = σ0 c x := by
  intro w
  induction w with
  | zero =>
    intro j σ hj hk I1 I2 I3 I4
    have e : j = hm := by omega
    subst e
    refine ⟨σ, b349_72 ?_, I1, I2, I3, I4⟩
    rw [I4 682 40 (by decide) (by decide), hh, if_neg (by omega)]
  | succ w ih =>
    intro j σ hj hk I1 I2 I3 I4
    have e711 : ∀ x, cpyS σ (24 + (j + 1)) (24 + j) 711 x = σ 711 x := fun x => cpy_off (by decide)
    have sl : ∀ u, SSL (upS (cpyS σ (24 + (j + 1)) (24 + j)) 711 j (cpyS σ (24 + (j + 1)) (24 + j) 711 (j + 1))) u (cpyS σ (24 + (j + 1)) (24 + j)) u := fun u => SSL_eq (fun c x hc => up_a (by omega))
    obtain ⟨s, a1, a2, a3, a4, a5⟩ := ih (j + 1) (upS (cpyS σ (24 + (j + 1)) (24 + j)) 711 j (cpyS σ (24 + (j + 1)) (24 + j) 711 (j + 1))) (by omega) (by omega) (fun j' h1 h2 => by
      by_cases e : j' = j
      · subst e
        refine ⟨SSL_t (sl _) (SSL_t SSL_cpy (I2 (24 + (j' + 1)) (by omega) (by omega))), ?_⟩
        rw [up_s, e711]
        exact I3 _ (by omega)
      · have z := I1 j' h1 (by omega)
        refine ⟨SSL_t (sl _) (SSL_t (cpy_slot (by omega)) z.1), ?_⟩
        rw [up_k e, e711]
        exact z.2) (fun u hu h44 => SSL_t (sl _) (SSL_t (cpy_slot (by omega)) (I2 u (by omega) h44))) (fun x hx => by
      rw [up_k (by omega), e711]
      exact I3 x (by omega)) (fun c x h1 h2 => by
      rw [up_a h2, cpy_off h1]
      exact I4 c x h1 h2)
    refine ⟨s, b349_72 ?_, a2, a3, a4, a5⟩
    have e288 := d288 (σ := σ) (s := 24 + (j + 1)) (t := 24 + j) (by omega) (by omega)
    rw [I4 682 40 (by decide) (by decide), hh, if_pos (by omega), show 24 + (j : Int) + 1 = ((24 + (j + 1) : Nat) : Int) by omega, show 24 + (j : Int) = ((24 + j : Nat) : Int) by omega]
    refine ⟨by omega, by omega, by omega, _, e288, by omega, by omega, by omega, by omega, ?_⟩
    rw [show ((j : Nat) : Int).toNat = j by omega, show ((j : Int) + 1).toNat = j + 1 by omega, show (j : Int) + 1 = ((j + 1 : Nat) : Int) by omega]
    exact a1
/-- the stack after a fold -/
theorem RSt_fold {σ s : Sg} {c : Int} {k h nb na na' : Nat} {J : Nat → Int} (H : RSt c σ) (hc : True) (hh : σ 402 3 = (h : Nat)) (hk : k + 1 < h) (a3 : s 402 3 = ((h - 1 : Nat) : Int)) (a4 : s 402 4 = σ 402 4) (a40 : s 682 40 = ((h - 1 : Nat) : Int)) (a41 : s 682 41 = σ 682 41) (a39 : s 682 39 = σ 682 39) (fb : ∀ a x, a = 403 ∨ a = 404 ∨ a = 710 → s a x = σ a x) (n1 : s 471 1 = ((h - 1 : Nat) : Int)) (n2 : ∀ x : Nat, x < h - 1 → s 472 x = if k + 1 ≤ x then σ 472 (x + 1) else σ 472 x) (n3 : ∀ x : Nat, x < h - 1 → s 711 x = if k + 1 ≤ x then σ 711 (x + 1) else σ 711 x) (lo : ∀ j, j < k → SMR s (406 + 13 * j) σ (406 + 13 * j) ∧ SSL s (24 + j) σ (24 + j)) (hi : ∀ j, k < j → j < h - 1 → SMR s (406 + 13 * j) σ (406 + 13 * (j + 1)) ∧ SSL s (24 + j) σ (24 + (j + 1))) (jN : NP s (406 + 13 * k) nb na') (jb : nb ≤ 16 ∧ na' ≤ 16) (jS : Slot s (24 + k) nb na' (s (406 + 13 * k + 2)) (s (406 + 13 * k + 4)) (s (406 + 13 * k + 6))) (jP : PO s (406 + 13 * k) 16) (jo : σ (406 + 13 * k + 1) 1 = (nb : Nat) ∧ ∀ i, i < nb → s (406 + 13 * k + 2) i = σ (406 + 13 * k + 2) i) (jn : σ (406 + 13 * (k + 1) + 3) 1 = (na' : Nat) ∧ ∀ i, i < na' → s (406 + 13 * k + 4) i = σ (406 + 13 * (k + 1) + 4) i) (wf : ∀ j, j < h → 0 ≤ σ (406 + 13 * j + 1) 1 ∧ 0 ≤ σ (406 + 13 * j + 3) 1) : RSt (c + 1) s := by
  obtain ⟨h1, h2, h3, h4, h5, h6, h7, h8, h9, h10, h11⟩ := H
  refine ⟨by omega, by omega, by omega, by omega, by omega, by omega, ⟨by rw [a3]; exact n1, fun i hi' => ?_⟩, fun q hq => ?_, rowEq_fr (fb _ _ (by omega)) (fun i => fb _ _ (by omega)) (fun i => fb _ _ (by omega)) a39 h9, fun i hi' => ?_, fun j hj => ?_⟩
  · rw [a3] at hi'
    have e := n2 i (by omega)
    have e' := n3 i (by omega)
    show s 472 i = _
    rw [e, Nat.zero_add, e']
    by_cases y : k + 1 ≤ i
    · rw [if_pos y, if_pos y]
      have := h7.2 (i + 1) (by omega)
      rw [Nat.zero_add] at this
      exact this
    · rw [if_neg y, if_neg y]
      have := h7.2 i (by omega)
      rw [Nat.zero_add] at this
      exact this
  · rw [a3] at hq
    rw [n2 q (by omega), a4]
    by_cases y : k + 1 ≤ q
    · rw [if_pos y]
      exact h8 (q + 1) (by omega)
    · rw [if_neg y]
      exact h8 q (by omega)
  · rw [fb 403 1 (by omega)] at hi'
    rw [fb 404 i (by omega)]
    exact h10 i hi'
  · rw [a3] at hj
    have hsl : ∀ {P Q t u : Nat}, SMR s P σ Q → SSL s t σ u → PR σ Q u → PO σ Q 16 → 0 ≤ σ (Q + 1) 1 ∧ 0 ≤ σ (Q + 3) 1 → PR s P t ∧ PO s P 16 := by
      intro P Q t u x1 x2 x3 x4 x5
      have b := PR_16 x3 x4
      exact ⟨PR_cg x1 (fun c x y1 y2 => x2.1 c x y1 y2) ⟨x2.2.1, x2.2.2⟩ (by omega) x3, PO_cg x1 x4 x5⟩
    by_cases y : j < k
    · obtain ⟨l1, l2⟩ := lo j y
      obtain ⟨g1, g2, g3⟩ := h11 j (by omega)
      obtain ⟨x1, x2⟩ := hsl l1 l2 g1 g2 (wf j (by omega))
      refine ⟨x1, x2, ?_⟩
      obtain ⟨z1, z2⟩ := l1 1 (by omega)
      by_cases y0 : j = 0
      · have hbl : blw j = 403 := by unfold blw; rw [if_pos y0]
        rw [hbl] at g3 ⊢
        refine ⟨by rw [z1, fb 403 1 (by omega)]; exact g3.1, fun x hx => ?_⟩
        rw [z1] at hx
        rw [z2 x hx]
        show _ = s 404 x
        rw [fb 404 x (by omega)]
        exact g3.2 x hx
      · have hbl : blw j = 406 + 13 * (j - 1) + 3 := by unfold blw; rw [if_neg y0]
        rw [hbl] at g3 ⊢
        obtain ⟨u1, u2⟩ := (lo (j - 1) (by omega)).1 3 (by omega)
        refine ⟨by rw [z1, u1]; exact g3.1, fun x hx => ?_⟩
        rw [z1] at hx
        have sz := g3.1
        rw [z2 x hx, u2 x (by omega)]
        exact g3.2 x hx
    · by_cases y2 : j = k
      · subst y2
        obtain ⟨t1, t2, t3, t4, t5⟩ := jS
        obtain ⟨q1, q3, q5, q7, -⟩ := jN
        obtain ⟨g1, g2, g3⟩ := h11 j (by omega)
        refine ⟨⟨⟨by rw [t1]; exact q1, fun i hi' => ?_⟩, ⟨by rw [t2]; exact q3, fun i hi' => ?_⟩, ⟨by rw [t1]; exact q5, fun i hi' => ?_⟩⟩, jP, ?_⟩
        · rw [t1] at hi'
          exact (t3 i (by omega)).symm
        · rw [t2] at hi'
          exact (t4 i (by omega)).symm
        · rw [t1] at hi'
          exact (t5 i (by omega)).symm
        · by_cases y0 : j = 0
          · have hbl : blw j = 403 := by unfold blw; rw [if_pos y0]
            rw [hbl] at g3 ⊢
            refine ⟨by rw [q1, fb 403 1 (by omega), ← jo.1]; exact g3.1, fun x hx => ?_⟩
            rw [q1] at hx
            show s (406 + 13 * j + 2) x = s 404 x
            rw [jo.2 x (by omega), fb 404 x (by omega)]
            exact g3.2 x (by omega)
          · have hbl : blw j = 406 + 13 * (j - 1) + 3 := by unfold blw; rw [if_neg y0]
            rw [hbl] at g3 ⊢
            obtain ⟨u1, u2⟩ := (lo (j - 1) (by omega)).1 3 (by omega)
            refine ⟨by rw [q1, u1, ← jo.1]; exact g3.1, fun x hx => ?_⟩
            rw [q1] at hx
            have sz := g3.1
            show s (406 + 13 * j + 2) x = _
            rw [jo.2 x (by omega), u2 x (by omega)]
            exact g3.2 x (by omega)
      · obtain ⟨l1, l2⟩ := hi j (by omega) (by omega)
        obtain ⟨g1, g2, g3⟩ := h11 (j + 1) (by omega)
        obtain ⟨x1, x2⟩ := hsl l1 l2 g1 g2 (wf (j + 1) (by omega))
        refine ⟨x1, x2, ?_⟩
        obtain ⟨z1, z2⟩ := l1 1 (by omega)
        have hbl : blw j = 406 + 13 * (j - 1) + 3 := by unfold blw; rw [if_neg (by omega)]
        have hbl2 : blw (j + 1) = 406 + 13 * j + 3 := by unfold blw; rw [if_neg (by omega), Nat.add_sub_cancel]
        rw [hbl2] at g3
        rw [hbl]
        by_cases y3 : j = k + 1
        · subst y3
          rw [show k + 1 - 1 = k by omega]
          obtain ⟨q1, q3, q5, q7, -⟩ := jN
          refine ⟨by rw [z1, q3, ← jn.1]; exact g3.1, fun x hx => ?_⟩
          rw [z1] at hx
          have sz := g3.1
          rw [z2 x hx]
          show _ = s (406 + 13 * k + 4) x
          rw [jn.2 x (by omega)]
          exact g3.2 x hx
        · obtain ⟨u1, u2⟩ := (hi (j - 1) (by omega) (by omega)).1 3 (by omega)
          rw [show j - 1 + 1 = j by omega] at u1 u2
          refine ⟨by rw [z1, u1]; exact g3.1, fun x hx => ?_⟩
          rw [z1] at hx
          have sz := g3.1
          rw [z2 x hx, u2 x (by omega)]
          exact g3.2 x hx
end
-- DRAFT 89.fold2.lean
/-! fold, the call. -/
noncomputable section
theorem Slot_ssl {s σ : Sg} {t u nb na : Nat} {O N F : Nat → Int} (h : SSL s t σ u) (h1 : nb ≤ 100) (h2 : na ≤ 100) (S : Slot σ u nb na O N F) : Slot s t nb na O N F := by
  obtain ⟨a1, a2, a3, a4, a5⟩ := S
  exact ⟨by rw [h.2.1]; exact a1, by rw [h.2.2]; exact a2, fun i hi => by rw [h.1 685 i (by decide) (by omega)]; exact a3 i hi, fun i hi => by rw [h.1 686 i (by decide) (by omega)]; exact a4 i hi, fun i hi => by rw [h.1 687 i (by decide) (by omega)]; exact a5 i hi⟩
theorem Slot_cg {s : Sg} {t nb na : Nat} {O N F O' N' F' : Nat → Int} (h1 : ∀ i, i < nb → O' i = O i) (h2 : ∀ i, i < na → N' i = N i) (h3 : ∀ i, i < nb → F' i = F i) (S : Slot s t nb na O N F) : Slot s t nb na O' N' F' := by
  obtain ⟨a1, a2, a3, a4, a5⟩ := S
  exact ⟨a1, a2, fun i hi => by rw [h1 i hi]; exact a3 i hi, fun i hi => by rw [h2 i hi]; exact a4 i hi, fun i hi => by rw [h3 i hi]; exact a5 i hi⟩
theorem gd_po {σ : Sg} {P nb na : Nat} {m : Int} (n : NP σ P nb na) (h : PO σ P m) : ∀ i, i < nb → ¬ σ (P + 6) i = -1 → σ (P + 2) i = σ (P + 4) (σ (P + 6) i).toNat := by
  intro i hi e
  have n1 := n.1
  rcases h.2.2.2.2.1 i (by omega) with z | z
  · exact absurd z e
  · exact z.2.2.2
/-- the scratch patch after a join is in order -/
theorem PO_join {σ s1 : Sg} {P Q nb na na' : Nat} (N : NP σ P nb na) (N' : NP σ Q na na') (q2 : PO σ P 16) (r2 : PO σ Q 16) (hf : ∀ k, k < na → σ (P + 4) k = σ (Q + 2) k) (n2 : NP s1 351 nb na') (v1 : ∀ i, i < nb → s1 353 i = σ (P + 2) i) (v2 : ∀ i, i < na' → s1 355 i = σ (Q + 4) i) (v3 : ∀ i, i < nb → s1 357 i = jp (σ (P + 2)) (σ (Q + 4)) (σ (P + 6)) (σ (Q + 6)) nb na' i) : PO s1 351 16 := by
  have g := jp_GD N.2.2.2.2.1 N'.2.2.2.2.1 (gd_po N q2) (gd_po N' r2) hf
  have z1 := N.1
  have z3 := N'.2.1
  have z4 := q2.1
  have z5 := r2.2.1
  refine PO_of n2 (by omega) (by omega) (fun i hi e => ?_) (fun i hi => ?_) (fun i hi => ?_)
  · have z6 : s1 (351 + 6) i = _ := v3 i hi
    rw [z6] at e ⊢
    rcases g.1.1 i hi with y | y
    · exact absurd y e
    have z2 : s1 (351 + 2) i = _ := v1 i hi
    rw [z2, g.2 i hi e]
    exact (v2 _ (by omega)).symm
  · have z2 : s1 (351 + 2) i = _ := v1 i hi
    rw [z2]; exact q2.2.2.2.2.2.2.2.1 i (by omega)
  · have z2 : s1 (351 + 4) i = _ := v2 i hi
    rw [z2]; exact r2.2.2.2.2.2.2.2.2.1 i (by omega)
theorem o33 {σ : Sg} {c a1 : Int} (H : Rel c σ) : OpR 422 349 [vA 0, vI a1, vA 726] [vA 682, vI a1] σ (c + 1) := by
  by_cases g1 : a1 < 0
  · exact x33_0 H g1
  by_cases g2 : σ 402 3 ≤ a1
  · exact x33_1 H g2
  have k0 : 0 ≤ a1 ∧ a1 < σ 402 3 := by omega
  by_cases g3 : σ 402 3 ≤ a1 + 1
  · exact x33_2 H k0 g3
  obtain ⟨n4, n5, n6⟩ := (rel_n H).2.1
  obtain ⟨k, rfl⟩ := Int.eq_ofNat_of_zero_le k0.1
  obtain ⟨h, hh⟩ := Int.eq_ofNat_of_zero_le n5
  have hkh : k + 1 < h := by omega
  have hS := H.2.2.2.2.2.1
  have hlay := hS.2.2.2.2.2.2.2.2.2.2
  have hL := cpL (p := k) (by omega)
  have hL1 := cpL (p := k + 1) (by omega)
  have hP := hL.2.2.2.2.2.2.1
  have hQ := hL1.2.2.2.2.2.2.1
  have e231 := d231_ok (σ := σ) (k := (k : Int)) (by omega) n6
  have f231 := d231_ok (σ := σ) (k := (k : Int) + 1) (by omega) n6
  rw [show ((k : Int)).toNat = k by omega] at e231
  rw [show ((k : Int) + 1).toNat = k + 1 by omega] at f231
  obtain ⟨p1, p2, p3⟩ := hlay k (by omega)
  obtain ⟨r1, r2, r3⟩ := hlay (k + 1) (by omega)
  have w1 := H.1 _ (pat_1 hP)
  have w3 := H.1 _ (pat_3 hP)
  have y1 := H.1 _ (pat_1 hQ)
  have y3 := H.1 _ (pat_3 hQ)
  obtain ⟨nb, na, b1, b2, N, S⟩ := po_slot p1 p2 w1.1 w3.1
  obtain ⟨nb', na', b3, b4, N', S'⟩ := po_slot r1 r2 y1.1 y3.1
  have hbl : blw (k + 1) = 406 + 13 * k + 3 := by unfold blw; rw [if_neg (by omega), Nat.add_sub_cancel]
  rw [hbl] at r3
  have ena : nb' = na := by
    have z1 := r3.1
    have z2 := N.2.1
    have z3 := N'.1
    omega
  subst ena
  have hf : ∀ x, x < nb' → σ (406 + 13 * k + 4) x = σ (406 + 13 * (k + 1) + 2) x := fun x hx => (r3.2 x (by have z3 := N'.1; omega)).symm
  obtain ⟨s1, a1', n2, W1, v1, v2, v3, fr⟩ := d4 H.1 hP hQ (by omega) (by omega) (by omega) (by omega) (by omega) N N' (gd_po N p2) (gd_po N' r2) hf
  have P1 := PO_join N N' p2 r2 hf n2 v1 v2 v3
  obtain ⟨p351, c352, c354, c356, c358, c360⟩ := cpS351
  have c352' : cap (351 + 1) = 96 := c352
  have c354' : cap (351 + 3) = 96 := c354
  have c356' : cap (351 + 5) = 96 := c356
  have c358' : cap (351 + 7) = 96 := c358
  have c360' : cap (351 + 9) = 388 := c360
  have e96 := d96 (σ := s1) hP p351 (by omega) (WF_pw W1)
  have W2 := WF_pb hP p351 W1
  have hlk := hks_len n2.2.2.2.2.1
  have cpy : ∀ m, m = 1 ∨ m = 3 ∨ m = 5 ∨ m = 7 ∨ m = 9 → pbS s1 (406 + 13 * k) 351 (406 + 13 * k + m) 1 = s1 (351 + m) 1 ∧ ∀ x : Nat, (x : Int) < s1 (351 + m) 1 → pbS s1 (406 + 13 * k) 351 (406 + 13 * k + m + 1) x = s1 (351 + m + 1) x := by
    obtain ⟨m1, m3, m5, m7, mV, mK, mC, -⟩ := n2
    intro m hm
    refine pb_row (by omega) hm ?_
    rcases hm with hm | hm | hm | hm | hm <;> subst hm <;> omega
  have off2 : ∀ a x, ¬ (406 + 13 * k + 1 ≤ a ∧ a ≤ 406 + 13 * k + 10) → pbS s1 (406 + 13 * k) 351 a x = s1 a x := fun a x y => pb_off y
  generalize pbS s1 (406 + 13 * k) 351 = s2 at e96 W2 cpy off2
  have s2h : s2 402 3 = (h : Nat) := by rw [off2 _ _ (by omega), fr _ _ (by omega) (by omega) (by omega)]; exact hh
  obtain ⟨s3, c1, W3, c2, c3⟩ := l130 (σ0 := s2) (k1 := k + 1) (h := h) (by omega) s2h (h - (k + 2)) (k + 1) s2 (by omega) (Nat.le_refl _) W2 (fun j' q1 q2 => by omega) (fun _ _ _ => rfl)
  have s3471 : ∀ x, s3 471 x = σ 471 x := fun x => by rw [c3 _ _ (by omega), off2 _ _ (by omega), fr _ _ (by omega) (by omega) (by omega)]
  have s3472 : ∀ x, s3 472 x = σ 472 x := fun x => by rw [c3 _ _ (by omega), off2 _ _ (by omega), fr _ _ (by omega) (by omega) (by omega)]
  have e471 : σ 471 1 = (h : Nat) := by have := hS.2.2.2.2.2.2.1.1; omega
  have d151' := d151 (σ := s3) (a := 471) (p := (k : Int) + 1) (WF_w W3 r471.1) (by rw [s3471]; omega)
  have rmo : ∀ a x, ¬ a = 471 → ¬ a = 472 → rmS1 s3 471 ((k : Int) + 1) a x = s3 a x := by
    intro a x q1 q2
    unfold rmS1
    rw [if_neg q2, if_neg (fun e => q1 e.1)]
  have rm1 : rmS1 s3 471 ((k : Int) + 1) 471 1 = ((h - 1 : Nat) : Int) := by
    unfold rmS1
    rw [if_neg (by decide), if_pos ⟨rfl, rfl⟩, s3471]
    omega
  have rm2 : ∀ x : Nat, x < h - 1 → rmS1 s3 471 ((k : Int) + 1) 472 x = if k + 1 ≤ x then σ 472 (x + 1) else σ 472 x := by
    intro x hx
    unfold rmS1
    rw [if_pos rfl, s3471, s3472, s3472]
    by_cases y : k + 1 ≤ x
    · rw [if_pos y, if_pos (by omega)]
    · rw [if_neg y, if_neg (by omega)]
  obtain ⟨s5, hs5⟩ : ∃ s5, s5 = upS (upS (rmS1 s3 471 ((k : Int) + 1)) 402 3 ((h - 1 : Nat) : Int)) 726 0 ((h - 1 : Nat) : Int) := ⟨_, rfl⟩
  have hA : Dd 422 [vA 0, vI k, vA 726] σ (rI 0 s5) := by
    have e130 : Dd 130 [vA 402, vI ((k : Int) + 1)] s2 (rV (upS (rmS1 s3 471 ((k : Int) + 1)) 402 3 ((h - 1 : Nat) : Int))) := by
      refine b130 ?_
      rw [s2h, if_pos (by omega), if_neg (by omega)]
      have z := c1 (o := rV (upS (rmS1 s3 471 ((k : Int) + 1)) 402 3 ((h - 1 : Nat) : Int))) (fun d2 => b130_59 ⟨_, by
        rw [show (((k + 1 : Nat)) : Int) = (k : Int) + 1 by omega]
        exact d151', by rw [rmo _ _ (by decide) (by decide), c3 _ _ (by omega), s2h]; omega, by
        rw [rmo _ _ (by decide) (by decide), c3 _ _ (by omega), s2h, show ((h : Nat) : Int) - 1 = ((h - 1 : Nat) : Int) by omega]⟩)
      rw [show (((k + 1 : Nat)) : Int) = (k : Int) + 1 by omega] at z
      exact z
    rw [hs5]
    refine b422 (Or.inl ⟨((h - 1 : Nat) : Int), upS (rmS1 s3 471 ((k : Int) + 1)) 402 3 ((h - 1 : Nat) : Int), b205 (Or.inl ⟨_, _, e231, hP, by omega, Or.inl ⟨_, _, f231, hQ, _, _, a1', p351, _, e96, by omega, _, e130, ?_⟩⟩), rfl⟩)
    rw [up_s]
  have s5c : ∀ a x, ¬ a = 471 → ¬ a = 472 → ¬ (a = 402 ∧ x = 3) → ¬ a = 726 → s5 a x = s3 a x := by
    intro a x q1 q2 q3 q4
    rw [hs5, up_a q4]
    have : upS (rmS1 s3 471 ((k : Int) + 1)) 402 3 ((h - 1 : Nat) : Int) a x = rmS1 s3 471 ((k : Int) + 1) a x := by
      unfold upS
      rw [if_neg q3]
    rw [this, rmo a x q1 q2]
  have s5_1 : s5 471 1 = ((h - 1 : Nat) : Int) := by rw [hs5, up_a (by decide), up_a (by decide)]; exact rm1
  have s5_2 : ∀ x : Nat, x < h - 1 → s5 472 x = if k + 1 ≤ x then σ 472 (x + 1) else σ 472 x := fun x hx => by rw [hs5, up_a (by decide), up_a (by decide)]; exact rm2 x hx
  have s5_3 : s5 402 3 = ((h - 1 : Nat) : Int) := by rw [hs5, up_a (by decide), up_s]
  have s5_v : s5 726 0 = ((h - 1 : Nat) : Int) := by rw [hs5, up_s]
  clear hs5 rm1 rm2 rmo d151'
  have s5m : ∀ a x, 682 ≤ a → ¬ a = 726 → s5 a x = σ a x := fun a x q1 q2 => by
    rw [s5c a x (by omega) (by omega) (by omega) q2, c3 a x (by omega), off2 a x (by omega), fr a x (by omega) (by omega) (by omega)]
  -- the reference
  have fr2 : ∀ c k, 685 ≤ c ∧ c ≤ 689 → upS s5 682 0 0 c k = σ c k := fun c k h => by rw [up_a (by omega)]; exact s5m c k (by omega) (by omega)
  obtain ⟨m1, d1, d2, d3⟩ := d295 (s := 24 + k) (t := 24 + (k + 1)) (p := 39) (σ := upS s5 682 0 0) (by omega) (by omega) (by omega) (by omega) (by omega) (by omega) (by omega) (by omega) N.2.2.2.2.1 N'.2.2.2.2.1 (Slot_fr fr2 S) (Slot_fr fr2 S')
  have d288' := d288 (σ := m1) (s := 39) (t := 24 + k) (by omega) (by omega)
  have m40 : cpyS m1 39 (24 + k) 682 40 = (h : Nat) := by rw [cpy_off (by decide), d3 _ _ (by omega) (by omega) (by omega), up_k (by decide), s5m _ _ (by decide) (by decide)]; omega
  obtain ⟨m3, hm3⟩ : ∃ m3, m3 = upS (cpyS m1 39 (24 + k)) 682 40 ((h - 1 : Nat) : Int) := ⟨_, rfl⟩
  have m3s : ∀ u, u < 44 → ¬ u = 24 + k → ¬ u = 39 → SSL m3 u σ u := by
    intro u hu q1 q2
    refine SSL_t (σ2 := cpyS m1 39 (24 + k)) (b := u) (SSL_eq (fun c x hc => by rw [hm3, up_a (by omega)])) (SSL_t (cpy_slot q1) ?_)
    refine ⟨fun c x hc hx => ?_, ?_, ?_⟩
    · rw [d3 _ _ (by omega) (by omega) (by omega)]
      exact fr2 _ _ (by omega)
    · rw [d3 _ _ (by omega) (by omega) (by omega)]
      exact fr2 _ _ (by omega)
    · rw [d3 _ _ (by omega) (by omega) (by omega)]
      exact fr2 _ _ (by omega)
  have m3k : SSL m3 (24 + k) m1 39 := SSL_t (σ2 := cpyS m1 39 (24 + k)) (b := 24 + k) (SSL_eq (fun c x hc => by rw [hm3, up_a (by omega)])) SSL_cpy
  have m3o : ∀ a x, ¬ (685 ≤ a ∧ a ≤ 689) → ¬ (700 ≤ a ∧ a ≤ 704) → ¬ (a = 682 ∧ (x = 0 ∨ x = 40)) → m3 a x = s5 a x := by
    intro a x q1 q2 q3
    rw [hm3]
    have : upS (cpyS m1 39 (24 + k)) 682 40 ((h - 1 : Nat) : Int) a x = cpyS m1 39 (24 + k) a x := by
      unfold upS
      rw [if_neg (by omega)]
    rw [this, cpy_off q1, d3 a x (by omega) (by omega) q2]
    unfold upS
    rw [if_neg (by omega)]
  have m3_0 : m3 682 0 = 0 := by rw [hm3, up_k (by decide), cpy_off (by decide), d3 _ _ (by omega) (by omega) (by omega), up_s]
  obtain ⟨s6, f0, f1, f2, f3, f4⟩ := l349 (σ0 := m3) (k1 := k + 1) (hm := h - 1) (d1 := some (vI k)) (by omega) (by rw [hm3]; exact up_s) (h - 1 - (k + 1)) (k + 1) m3 (by omega) (Nat.le_refl _) (fun j' q1 q2 => by omega) (fun u _ _ => SSL_eq (fun _ _ _ => rfl)) (fun _ _ => rfl) (fun _ _ _ _ => rfl)
  have hB : Dd 349 [vA 682, vI k] s5 (rI ((h - 1 : Nat) : Int) s6) := by
    have e40 := s5m 682 40 (by decide) (by decide)
    refine b349 ⟨_, _, d340_ok (by omega), ?_⟩
    rw [if_neg (show ¬ (1 : Int) = 0 by decide), if_pos (by omega)]
    refine ⟨by omega, b349_24 ⟨_, _, d245, ?_⟩⟩
    rw [if_pos rfl, if_neg (show ¬ (1 : Int) = 0 by decide), show 24 + (k : Int) + 1 = ((24 + (k + 1) : Nat) : Int) by omega, show 24 + (k : Int) = ((24 + k : Nat) : Int) by omega]
    refine ⟨by omega, by omega, by omega, _, d1, by omega, _, d288', ?_⟩
    rw [m40, show ((h : Nat) : Int) - 1 = ((h - 1 : Nat) : Int) by omega, show (k : Int) + 1 = ((k + 1 : Nat) : Int) by omega, ← hm3]
    exact ⟨by omega, by omega, f0⟩
  have s6o : ∀ a x, ¬ (685 ≤ a ∧ a ≤ 689) → ¬ (700 ≤ a ∧ a ≤ 704) → ¬ a = 711 → ¬ (a = 682 ∧ (x = 0 ∨ x = 40)) → s6 a x = s5 a x := fun a x q1 q2 q3 q4 => by
    rw [f4 a x q1 q3]
    exact m3o a x q1 q2 q4
  have s6c : ∀ a x, a < 682 → s6 a x = s5 a x := fun a x q => s6o a x (by omega) (by omega) (by omega) (by omega)
  -- the class's cells that stay
  have low : ∀ a x, a < 682 → ¬ (352 ≤ a ∧ a ≤ 361) → ¬ a = 377 → ¬ a = 378 → ¬ a = 471 → ¬ a = 472 → ¬ (a = 402 ∧ x = 3) → ¬ (406 + 13 * k + 1 ≤ a ∧ a < 406 + 13 * (h - 1)) → s6 a x = σ a x := by
    intro a x q0 q1 q2 q3 q4 q5 q6 q7
    rw [s6c a x q0, s5c a x q4 q5 q6 (by omega), c3 a x (by omega), off2 a x (by omega), fr a x q1 q2 q3]
  have kc : ∀ a x, 406 + 13 * k + 1 ≤ a → a ≤ 406 + 13 * k + 10 → s6 a x = s2 a x := fun a x q1 q2 => by
    rw [s6c a x (by omega), s5c a x (by omega) (by omega) (by omega) (by omega), c3 a x (by omega)]
  have PK : PO s6 (406 + 13 * k) 16 := PO_fr (fun a x q => kc a x (by omega) (by omega)) (PO_cg cpy P1 ⟨by have := n2.1; omega, by have := n2.2.1; omega⟩)
  have k1 : s6 (406 + 13 * k + 1) 1 = (nb : Nat) := by rw [kc _ _ (by omega) (by omega), (cpy 1 (by omega)).1]; exact n2.1
  have k3 : s6 (406 + 13 * k + 3) 1 = (na' : Nat) := by rw [kc _ _ (by omega) (by omega), (cpy 3 (by omega)).1]; exact n2.2.1
  have m1' := n2.1
  have m3' := n2.2.1
  have m5' := n2.2.2.1
  have kv1 : ∀ i, i < nb → s6 (406 + 13 * k + 2) i = σ (406 + 13 * k + 2) i := fun i hi => by
    rw [kc _ _ (by omega) (by omega)]
    have z := (cpy 1 (by omega)).2 i (by omega)
    rw [show 406 + 13 * k + 2 = 406 + 13 * k + 1 + 1 by omega, z]
    exact v1 i hi
  have kv3 : ∀ i, i < na' → s6 (406 + 13 * k + 4) i = σ (406 + 13 * (k + 1) + 4) i := fun i hi => by
    rw [kc _ _ (by omega) (by omega)]
    have z := (cpy 3 (by omega)).2 i (by omega)
    rw [show 406 + 13 * k + 4 = 406 + 13 * k + 3 + 1 by omega, z]
    exact v2 i hi
  have kv5 : ∀ i, i < nb → s6 (406 + 13 * k + 6) i = jp (σ (406 + 13 * k + 2)) (σ (406 + 13 * (k + 1) + 4)) (σ (406 + 13 * k + 6)) (σ (406 + 13 * (k + 1) + 6)) nb na' i := fun i hi => by
    rw [kc _ _ (by omega) (by omega)]
    have z := (cpy 5 (by omega)).2 i (by omega)
    rw [show 406 + 13 * k + 6 = 406 + 13 * k + 5 + 1 by omega, z]
    exact v3 i hi
  have W6 : WF s6 := WF_row (r := 471) (σ := s3) (fun a ha hne => by
    have q1 := row_lt ha
    have q2 : ¬ a = 402 := by intro e; subst e; exact absurd ha (by decide +kernel)
    rw [s6c a 1 q1, s5c a 1 hne (row_nx r471.1 ha) (by omega) (by omega)]) (by rw [s6c _ _ (by decide), s5_1, r471.2]; omega) W3
  have hSt : RSt (c + 1) s6 := by
    refine RSt_fold (k := k) (h := h) (nb := nb) (na := nb') (na' := na') (J := fun _ => 0) hS trivial hh hkh (by rw [s6c _ _ (by decide)]; exact s5_3) (low 402 4 (by decide) (by omega) (by decide) (by decide) (by decide) (by decide) (by decide) (by omega)) (by rw [f4 _ _ (by decide) (by decide), hm3]; exact up_s) (by rw [s6o _ _ (by decide) (by decide) (by decide) (by decide)]; exact s5m _ _ (by decide) (by decide)) (by rw [s6o _ _ (by decide) (by decide) (by decide) (by decide)]; exact s5m _ _ (by decide) (by decide)) (fun a x ha => ?_) (by rw [s6c _ _ (by decide)]; exact s5_1) (fun x hx => by rw [s6c _ _ (by decide)]; exact s5_2 x hx) (fun x hx => ?_) (fun j hj => ⟨?_, ?_⟩) (fun j hj1 hj2 => ⟨?_, ?_⟩) (NP_of PK k1 k3) ⟨b1, b4⟩ ?_ PK ⟨N.1, kv1⟩ ⟨N'.2.1, kv3⟩ (fun j hj => ?_)
    · by_cases q : a < 682
      · exact low a x q (by omega) (by omega) (by omega) (by omega) (by omega) (by omega) (by omega)
      · rw [s6o a x (by omega) (by omega) (by omega) (by omega)]
        exact s5m a x (by omega) (by omega)
    · by_cases y : k + 1 ≤ x
      · rw [if_pos y, (f1 x y hx).2, m3o _ _ (by decide) (by decide) (by omega)]
        exact s5m _ _ (by decide) (by decide)
      · rw [if_neg y, f3 x (by omega), m3o _ _ (by decide) (by decide) (by omega)]
        exact s5m _ _ (by decide) (by decide)
    · intro m hm
      exact ⟨low _ _ (by omega) (by omega) (by omega) (by omega) (by omega) (by omega) (by omega) (by omega), fun x hx => low _ _ (by omega) (by omega) (by omega) (by omega) (by omega) (by omega) (by omega) (by omega)⟩
    · exact SSL_t (f2 (24 + j) (by omega) (by omega)) (m3s (24 + j) (by omega) (by omega) (by omega))
    · intro m hm
      obtain ⟨z1, z2⟩ := c2 j (by omega) hj2 m hm
      have q : ∀ x, s2 (406 + 13 * (j + 1) + m) x = σ (406 + 13 * (j + 1) + m) x := fun x => by rw [off2 _ _ (by omega), fr _ _ (by omega) (by omega) (by omega)]
      have q' : ∀ x, s2 (406 + 13 * (j + 1) + m + 1) x = σ (406 + 13 * (j + 1) + m + 1) x := fun x => by rw [off2 _ _ (by omega), fr _ _ (by omega) (by omega) (by omega)]
      rw [q] at z1
      refine ⟨?_, fun x hx => ?_⟩
      · rw [s6c _ _ (by omega), s5c _ _ (by omega) (by omega) (by omega) (by omega)]
        exact z1
      · rw [s6c _ _ (by omega), s5c _ _ (by omega) (by omega) (by omega) (by omega), z2 x (by rw [q]; exact hx), q']
    · exact SSL_t (f1 j (by omega) hj2).1 (m3s (24 + (j + 1)) (by omega) (by omega) (by omega))
    · exact Slot_cg kv1 kv3 kv5 (Slot_ssl (f2 (24 + k) (by omega) (by omega)) (by omega) (by omega) (Slot_ssl m3k (by omega) (by omega) d2))
    · have q := (cpL (p := j) (by omega)).2.2.2.2.2.2.1
      exact ⟨(H.1 _ (pat_1 q)).1, (H.1 _ (pat_3 q)).1⟩
  refine op_fin hA hB ?_ (fun _ => ?_) (fun a x ha => s5m a x (by omega) (by omega)) (fun a x ha => by rw [s6o a x (by omega) (by omega) (by omega) (by omega)]; exact s5m a x (by omega) (by omega)) (Rel_S H W6 hSt (fun a x z1 z2 z3 z4 z5 z6 z7 => ?_))
  · rw [f4 _ _ (by decide) (by decide)]; exact m3_0
  · rw [s6o _ _ (by decide) (by decide) (by decide) (by decide)]; exact s5_v
  · by_cases q : a < 682
    · exact low a x q (by omega) (by omega) (by omega) (by omega) (by omega) (by omega) (by omega)
    · by_cases q2 : 685 ≤ a ∧ a ≤ 689
      · by_cases q3 : a ≤ 687
        · have z := SSL_t (f2 (x / 100) (by omega) (by omega)) (m3s (x / 100) (by omega) (by omega) (by omega))
          have z' := z.1 a (x % 100) (by omega) (by omega)
          rw [show 100 * (x / 100) + x % 100 = x by omega] at z'
          exact z'
        · have z := SSL_t (f2 x (by omega) (by omega)) (m3s x (by omega) (by omega) (by omega))
          have hq : a = 688 ∨ a = 689 := by omega
          rcases hq with hq | hq
          · rw [hq]; exact z.2.1
          · rw [hq]; exact z.2.2
      · rw [s6o a x q2 (by omega) z6 (by omega)]
        exact s5m a x (by omega) (by omega)
end
-- DRAFT 90.table.lean
/-! The table of the longest common parts, on both sides. -/
noncomputable section
def mxI (x y : Int) : Int := if x < y then y else x
def ltr (x : Int) (g : Nat → Int) (be : Nat) (prev : Nat → Int) : Nat → Int
  | 0 => 0
  | v + 1 => if x = g (be - (v + 1)) then prev v + 1 else mxI (prev (v + 1)) (ltr x g be prev v)
/-- how many pairs there can be of the last u of one row and the last v of another -/
def lt (f g : Nat → Int) (ae be : Nat) : Nat → Nat → Int
  | 0 => fun _ => 0
  | u + 1 => ltr (f (ae - (u + 1))) g be (lt f g ae be u)
theorem ltq_0 {f g : Nat → Int} {ae be u : Nat} : lt f g ae be u 0 = 0 := by
  cases u <;> rfl
theorem ltq_s {f g : Nat → Int} {ae be u v : Nat} : lt f g ae be (u + 1) (v + 1) = if f (ae - (u + 1)) = g (be - (v + 1)) then lt f g ae be u v + 1 else mxI (lt f g ae be u (v + 1)) (lt f g ae be (u + 1) v) := rfl
theorem lt_b {f g : Nat → Int} {ae be : Nat} : ∀ (u v : Nat), 0 ≤ lt f g ae be u v ∧ lt f g ae be u v ≤ (u : Int) ∧ lt f g ae be u v ≤ (v : Int) := by
  intro u
  induction u with
  | zero =>
    intro v
    show 0 ≤ (0 : Int) ∧ (0 : Int) ≤ ((0 : Nat) : Int) ∧ (0 : Int) ≤ (v : Int)
    omega
  | succ u ih =>
    intro v
    induction v with
    | zero =>
      rw [ltq_0]
      omega
    | succ v ihv =>
      rw [ltq_s]
      have a := ih v
      have b := ih (v + 1)
      by_cases h : f (ae - (u + 1)) = g (be - (v + 1))
      · rw [if_pos h]; omega
      · rw [if_neg h]
        unfold mxI
        split <;> omega
theorem lt_T {f g : Nat → Int} {ae be i j : Nat} (hi : i < ae) (hj : j < be) : lt f g ae be (ae - i) (be - j) = if f i = g j then lt f g ae be (ae - (i + 1)) (be - (j + 1)) + 1 else mxI (lt f g ae be (ae - (i + 1)) (be - j)) (lt f g ae be (ae - i) (be - (j + 1))) := by
  obtain ⟨u, hu⟩ : ∃ u, ae = i + 1 + u := ⟨ae - (i + 1), by omega⟩
  obtain ⟨v, hv⟩ : ∃ v, be = j + 1 + v := ⟨be - (j + 1), by omega⟩
  have e1 : ae - i = u + 1 := by omega
  have e2 : be - j = v + 1 := by omega
  have e3 : ae - (i + 1) = u := by omega
  have e4 : be - (j + 1) = v := by omega
  rw [e1, e2, e3, e4, ltq_s, show ae - (u + 1) = i by omega, show be - (v + 1) = j by omega]
/-- rows of the same numbers have the same table -/
theorem lt_cg {f g f' g' : Nat → Int} {ae be : Nat} (hf : ∀ i, i < ae → f' i = f i) (hg : ∀ j, j < be → g' j = g j) : ∀ (u v : Nat), u ≤ ae → v ≤ be → lt f' g' ae be u v = lt f g ae be u v := by
  intro u
  induction u with
  | zero => intro v _ _; rfl
  | succ u ih =>
    intro v
    induction v with
    | zero => intro _ _; rfl
    | succ v ihv =>
      intro h1 h2
      rw [ltq_s, ltq_s, hf _ (by omega), hg _ (by omega), ih v (by omega) (by omega), ih (v + 1) (by omega) h2, ihv h1 (by omega)]
theorem d22 {i j : Nat} {σ : Sg} (hi : i ≤ 40) (hj : j ≤ 40) : Dd 22 [vA 332, vI i, vI j] σ (rI (σ 349 (41 * i + j)) σ) := by
  refine b22 ⟨by omega, by omega, fun _ _ => by omega, ?_⟩
  rw [if_pos (by omega), if_pos (by omega), show ((41 * (i : Int)) + (j : Int)).toNat = 41 * i + j by omega]
theorem d23 {i j : Nat} {v : Int} {σ : Sg} (hi : i ≤ 40) (hj : j ≤ 40) : Dd 23 [vA 332, vI i, vI j, vI v] σ (rV (upS σ 349 (41 * i + j) v)) := by
  refine b23 ⟨by omega, by omega, ?_⟩
  rw [if_pos (by omega), if_pos (by omega), show ((41 * (i : Int)) + (j : Int)).toNat = 41 * i + j by omega]
  exact ⟨by omega, rfl⟩
theorem l21b {f g : Nat → Int} {a ae b be n1 n2 i : Nat} {σ0 : Sg} (ha : a ≤ ae) (hb : b ≤ be) (h1 : ae ≤ n1) (h2 : be ≤ n2) (h3 : n1 ≤ 40) (h4 : n2 ≤ 40) (w1 : wR σ0 333) (w2 : wR σ0 335) (z1 : σ0 333 1 = (n1 : Nat)) (z2 : σ0 335 1 = (n2 : Nat)) (hf : ∀ i, i < n1 → σ0 334 i = f i) (hg : ∀ i, i < n2 → σ0 336 i = g i) (hi : i ≤ ae) : ∀ (e : Nat) (σ : Sg), b + e ≤ be + 1 → (∀ c x, ¬ c = 349 → σ c x = σ0 c x) → (∀ i' j', i < i' → i' ≤ ae → b ≤ j' → j' ≤ be → σ 349 (41 * i' + j') = lt f g ae be (ae - i') (be - j')) → (∀ j', b + e ≤ j' → j' ≤ be → σ 349 (41 * i + j') = lt f g ae be (ae - i) (be - j')) → ∃ s, (∀ {o : Rs}, (∀ d6 d7, C21_3 a ae b be ((i : Int) + (-1)) d6 d7 s o) → ∀ d7, C21_13 a ae b be i (((b + e : Nat) : Int) - 1) d7 σ o) ∧ (∀ c x, ¬ c = 349 → s c x = σ0 c x) ∧ ∀ i' j', i ≤ i' → i' ≤ ae → b ≤ j' → j' ≤ be → s 349 (41 * i' + j') = lt f g ae be (ae - i') (be - j') := by
  intro e
  induction e with
  | zero =>
    intro σ he hF hR hC
    refine ⟨σ, fun {o} hh d7 => b21_13 ?_, hF, fun i' j' q1 q2 q3 q4 => ?_⟩
    · rw [if_neg (by omega)]
      exact ⟨by omega, hh _ _⟩
    · by_cases y : i' = i
      · rw [y]; exact hC j' (by omega) q4
      · exact hR i' j' (by omega) q2 q3 q4
  | succ e ih =>
    intro σ he hF hR hC
    obtain ⟨j, hj⟩ : ∃ j, j = b + e := ⟨_, rfl⟩
    have ej : ((b + (e + 1) : Nat) : Int) - 1 = (j : Int) := by omega
    have e2 : (j : Int) + (-1) = ((b + e : Nat) : Int) - 1 := by omega
    obtain ⟨v, hv⟩ : ∃ v, v = lt f g ae be (ae - i) (be - j) := ⟨_, rfl⟩
    have bv := lt_b (f := f) (g := g) (ae := ae) (be := be) (ae - i) (be - j)
    obtain ⟨s, a1, a2, a3⟩ := ih (upS σ 349 (41 * i + j) v) (by omega) (fun c x h => by rw [up_a h]; exact hF c x h) (fun i' j' q1 q2 q3 q4 => by
      rw [up_k (by omega)]
      exact hR i' j' q1 q2 q3 q4) (fun j' q1 q2 => by
      by_cases y : j' = j
      · rw [y, up_s]; exact hv
      · rw [up_k (by omega)]
        exact hC j' (by omega) q2)
    have go : ∀ {o : Rs}, (∀ d6 d7, C21_3 a ae b be ((i : Int) + (-1)) d6 d7 s o) → C21_98 a ae b be i j v σ o := by
      intro o hh
      refine b21_98 ⟨_, d23 (by omega) (by omega), by omega, ?_⟩
      rw [e2]
      exact a1 hh _
    refine ⟨s, fun {o} hh d7 => ?_, a2, a3⟩
    rw [ej]
    refine b21_13 ?_
    rw [if_pos (by omega)]
    by_cases c1 : i < ae
    · rw [if_pos (by omega)]
      by_cases c2 : j < be
      · rw [if_pos (by omega)]
        have e147 := d147 (σ := σ) (a := 333) (i := (i : Int)) ⟨w1.1, by rw [hF _ _ (by decide)]; exact w1.2⟩
        rw [at_on (n := n1) (f := f) (by rw [hF _ _ (by decide)]; exact z1) (fun i hi => by rw [hF _ _ (by decide)]; exact hf i hi) (by omega)] at e147
        have f147 := d147 (σ := σ) (a := 335) (i := (j : Int)) ⟨w2.1, by rw [hF _ _ (by decide)]; exact w2.2⟩
        rw [at_on (n := n2) (f := g) (by rw [hF _ _ (by decide)]; exact z2) (fun i hi => by rw [hF _ _ (by decide)]; exact hg i hi) (by omega)] at f147
        have T := lt_T (f := f) (g := g) c1 c2
        rw [← hv] at T
        have q11 := d22 (σ := σ) (i := i + 1) (j := j + 1) (by omega) (by omega)
        have q10 := d22 (σ := σ) (i := i + 1) (j := j) (by omega) (by omega)
        have q01 := d22 (σ := σ) (i := i) (j := j + 1) (by omega) (by omega)
        rw [hR (i + 1) (j + 1) (by omega) (by omega) (by omega) (by omega), show ((i + 1 : Nat) : Int) = (i : Int) + 1 by omega, show ((j + 1 : Nat) : Int) = (j : Int) + 1 by omega] at q11
        rw [hR (i + 1) j (by omega) (by omega) (by omega) (by omega), show ((i + 1 : Nat) : Int) = (i : Int) + 1 by omega] at q10
        rw [hC (j + 1) (by omega) (by omega), show ((j + 1 : Nat) : Int) = (j : Int) + 1 by omega] at q01
        refine ⟨_, _, e147, _, _, f147, ?_⟩
        have bv2 := lt_b (f := f) (g := g) (ae := ae) (be := be) (ae - (i + 1)) (be - (j + 1))
        by_cases y : f i = g j
        · rw [if_pos y]
          rw [if_pos y] at T
          refine ⟨by omega, by omega, _, _, q11, by omega, b21_96 ?_⟩
          rw [show 1 + lt f g ae be (ae - (i + 1)) (be - (j + 1)) = v by omega]
          exact go hh
        · rw [if_neg y]
          rw [if_neg y] at T
          refine ⟨by omega, _, _, q10, by omega, _, _, q01, b21_96 ?_⟩
          unfold mxI at T
          rw [← T]
          exact go hh
      · rw [if_neg (by omega)]
        have v0 : v = 0 := by
          rw [hv, show be - j = 0 by omega, ltq_0]
        rw [v0] at go
        exact go hh
    · rw [if_neg (by omega)]
      have v0 : v = 0 := by
        rw [hv, show ae - i = 0 by omega]
        rfl
      rw [v0] at go
      exact go hh
/-- Comparer.fillTable -/
theorem d21 {f g : Nat → Int} {a ae b be n1 n2 : Nat} {σ0 : Sg} (ha : a ≤ ae) (hb : b ≤ be) (h1 : ae ≤ n1) (h2 : be ≤ n2) (h3 : n1 ≤ 40) (h4 : n2 ≤ 40) (w1 : wR σ0 333) (w2 : wR σ0 335) (z1 : σ0 333 1 = (n1 : Nat)) (z2 : σ0 335 1 = (n2 : Nat)) (hf : ∀ i, i < n1 → σ0 334 i = f i) (hg : ∀ i, i < n2 → σ0 336 i = g i) : ∃ s, Dd 21 [vA 332, vI a, vI ae, vI b, vI be] σ0 (rV s) ∧ (∀ i j, a ≤ i → i ≤ ae → b ≤ j → j ≤ be → s 349 (41 * i + j) = lt f g ae be (ae - i) (be - j)) ∧ ∀ c x, ¬ c = 349 → s c x = σ0 c x := by
  have L : ∀ (d : Nat) (σ : Sg), a + d ≤ ae + 1 → (∀ c x, ¬ c = 349 → σ c x = σ0 c x) → (∀ i' j', a + d ≤ i' → i' ≤ ae → b ≤ j' → j' ≤ be → σ 349 (41 * i' + j') = lt f g ae be (ae - i') (be - j')) → ∃ s, (∀ d6 d7, C21_3 a ae b be (((a + d : Nat) : Int) - 1) d6 d7 σ (rV s)) ∧ (∀ i j, a ≤ i → i ≤ ae → b ≤ j → j ≤ be → s 349 (41 * i + j) = lt f g ae be (ae - i) (be - j)) ∧ ∀ c x, ¬ c = 349 → s c x = σ0 c x := by
    intro d
    induction d with
    | zero =>
      intro σ hd hF hR
      refine ⟨σ, fun d6 d7 => b21_3 ?_, fun i j q1 q2 q3 q4 => hR i j (by omega) q2 q3 q4, hF⟩
      rw [if_neg (by omega)]
    | succ d ih =>
      intro σ hd hF hR
      obtain ⟨s1, c1, c2, c3⟩ := l21b (i := a + d) ha hb h1 h2 h3 h4 w1 w2 z1 z2 hf hg (by omega) (be + 1 - b) σ (by omega) hF (fun i' j' q1 q2 q3 q4 => hR i' j' (by omega) q2 q3 q4) (fun j' q1 q2 => by omega)
      obtain ⟨s, e1, e2, e3⟩ := ih s1 (by omega) c2 (fun i' j' q1 q2 q3 q4 => c3 i' j' q1 q2 q3 q4)
      refine ⟨s, fun d6 d7 => b21_3 ?_, e2, e3⟩
      rw [show ((a + (d + 1) : Nat) : Int) - 1 = ((a + d : Nat) : Int) by omega, if_pos (by omega)]
      rw [show ((a + d : Nat) : Int) - 1 = ((a + d : Nat) : Int) + (-1) by omega] at e1
      have z := c1 e1 d7
      rw [show ((b + (be + 1 - b) : Nat) : Int) - 1 = (be : Int) by omega] at z
      exact z
  obtain ⟨s, e1, e2, e3⟩ := L (ae + 1 - a) σ0 (by omega) (fun _ _ _ => rfl) (fun i' j' q1 q2 q3 q4 => by omega)
  rw [show ((a + (ae + 1 - a) : Nat) : Int) - 1 = (ae : Int) by omega] at e1
  exact ⟨s, b21 (e1 _ _), e2, e3⟩
/-- the reference's laysTable -/
theorem l265b {f g : Nat → Int} {a ae b be n1 n2 i : Nat} {σ0 : Sg} (ha : a ≤ ae) (hb : b ≤ be) (h1 : ae ≤ n1) (h2 : be ≤ n2) (h3 : n1 ≤ 64) (h4 : n2 ≤ 64) (hf : ∀ i, i < n1 → σ0 691 i = f i) (hg : ∀ i, i < n2 → σ0 692 i = g i) (hi : i ≤ ae) : ∀ (e : Nat) (σ : Sg), b + e ≤ be + 1 → (∀ c x, ¬ c = 694 → σ c x = σ0 c x) → (∀ i' j', i < i' → i' ≤ ae → b ≤ j' → j' ≤ be → σ 694 (65 * i' + j') = lt f g ae be (ae - i') (be - j')) → (∀ j', b + e ≤ j' → j' ≤ be → σ 694 (65 * i + j') = lt f g ae be (ae - i) (be - j')) → ∃ s, (∀ {o : Rs}, (∀ d6 d7 d8 d9, C265_3 a ae b be ((i : Int) + (-1)) d6 d7 d8 d9 s o) → ∀ d7 d8 d9, C265_13 a ae b be i (((b + e : Nat) : Int) - 1) d7 d8 d9 σ o) ∧ (∀ c x, ¬ c = 694 → s c x = σ0 c x) ∧ ∀ i' j', i ≤ i' → i' ≤ ae → b ≤ j' → j' ≤ be → s 694 (65 * i' + j') = lt f g ae be (ae - i') (be - j') := by
  intro e
  induction e with
  | zero =>
    intro σ he hF hR hC
    refine ⟨σ, fun {o} hh d7 d8 d9 => b265_13 ?_, hF, fun i' j' q1 q2 q3 q4 => ?_⟩
    · rw [if_neg (by omega)]
      exact ⟨by omega, hh _ _ _ _⟩
    · by_cases y : i' = i
      · rw [y]; exact hC j' (by omega) q4
      · exact hR i' j' (by omega) q2 q3 q4
  | succ e ih =>
    intro σ he hF hR hC
    obtain ⟨j, hj⟩ : ∃ j, j = b + e := ⟨_, rfl⟩
    have ej : ((b + (e + 1) : Nat) : Int) - 1 = (j : Int) := by omega
    have e2 : (j : Int) + (-1) = ((b + e : Nat) : Int) - 1 := by omega
    obtain ⟨v, hv⟩ : ∃ v, v = lt f g ae be (ae - i) (be - j) := ⟨_, rfl⟩
    obtain ⟨s, a1, a2, a3⟩ := ih (upS σ 694 (65 * i + j) v) (by omega) (fun c x h => by rw [up_a h]; exact hF c x h) (fun i' j' q1 q2 q3 q4 => by
      rw [up_k (by omega)]
      exact hR i' j' q1 q2 q3 q4) (fun j' q1 q2 => by
      by_cases y : j' = j
      · rw [y, up_s]; exact hv
      · rw [up_k (by omega)]
        exact hC j' (by omega) q2)
    have go : ∀ {o : Rs}, (∀ d6 d7 d8 d9, C265_3 a ae b be ((i : Int) + (-1)) d6 d7 d8 d9 s o) → ∀ d8 d9, C265_124 a ae b be i j v d8 d9 σ o := by
      intro o hh d8 d9
      refine b265_124 ⟨by omega, by omega, by omega, by omega, ?_⟩
      rw [e2, show ((65 * (i : Int)) + (j : Int)).toNat = 65 * i + j by omega]
      exact a1 hh _ _ _
    refine ⟨s, fun {o} hh d7 d8 d9 => ?_, a2, a3⟩
    rw [ej]
    refine b265_13 ?_
    rw [if_pos (by omega)]
    by_cases c1 : i < ae
    · rw [if_pos (by omega)]
      by_cases c2 : j < be
      · rw [if_pos (by omega)]
        have T := lt_T (f := f) (g := g) c1 c2
        rw [← hv] at T
        have bv2 := lt_b (f := f) (g := g) (ae := ae) (be := be) (ae - (i + 1)) (be - (j + 1))
        rw [show ((i : Nat) : Int).toNat = i by omega, show ((j : Nat) : Int).toNat = j by omega, show ((65 * ((i : Int) + 1)) + (j : Int)).toNat = 65 * (i + 1) + j by omega, show (((65 * (i : Int)) + (j : Int)) + 1).toNat = 65 * i + (j + 1) by omega, show (((65 * ((i : Int) + 1)) + (j : Int)) + 1).toNat = 65 * (i + 1) + (j + 1) by omega, hF 691 i (by decide), hF 692 j (by decide), hf i (by omega), hg j (by omega), hR (i + 1) (j + 1) (by omega) (by omega) (by omega) (by omega), hR (i + 1) j (by omega) (by omega) (by omega) (by omega), hC (j + 1) (by omega) (by omega)]
        refine ⟨by omega, by omega, by omega, by omega, by omega, by omega, by omega, by omega, by omega, by omega, fun _ => by omega, fun _ => by omega, fun _ => by omega, fun _ => by omega, fun _ => by omega, fun _ => by omega, b265_122 ?_⟩
        have ev : (if f i = g j then lt f g ae be (ae - (i + 1)) (be - (j + 1)) + 1 else (if lt f g ae be (ae - i) (be - (j + 1)) < lt f g ae be (ae - (i + 1)) (be - j) then lt f g ae be (ae - (i + 1)) (be - j) else lt f g ae be (ae - i) (be - (j + 1)))) = v := by
          rw [T]
          by_cases y : f i = g j
          · rw [if_pos y, if_pos y]
          · rw [if_neg y, if_neg y]
            unfold mxI
            by_cases y2 : lt f g ae be (ae - i) (be - (j + 1)) < lt f g ae be (ae - (i + 1)) (be - j)
            · rw [if_pos y2, if_neg (by omega)]
            · rw [if_neg y2]
              by_cases y3 : lt f g ae be (ae - (i + 1)) (be - j) < lt f g ae be (ae - i) (be - (j + 1))
              · rw [if_pos y3]
              · rw [if_neg y3]; omega
        rw [ev]
        exact go hh _ _
      · rw [if_neg (by omega)]
        have v0 : v = 0 := by
          rw [hv, show be - j = 0 by omega, ltq_0]
        rw [v0] at go
        exact go hh _ _
    · rw [if_neg (by omega)]
      have v0 : v = 0 := by
        rw [hv, show ae - i = 0 by omega]
        rfl
      rw [v0] at go
      exact go hh _ _
theorem d265 {f g : Nat → Int} {a ae b be n1 n2 : Nat} {σ0 : Sg} (ha : a ≤ ae) (hb : b ≤ be) (h1 : ae ≤ n1) (h2 : be ≤ n2) (h3 : n1 ≤ 64) (h4 : n2 ≤ 64) (hf : ∀ i, i < n1 → σ0 691 i = f i) (hg : ∀ i, i < n2 → σ0 692 i = g i) : ∃ s, Dd 265 [vA 682, vI a, vI ae, vI b, vI be] σ0 (rV s) ∧ (∀ i j, a ≤ i → i ≤ ae → b ≤ j → j ≤ be → s 694 (65 * i + j) = lt f g ae be (ae - i) (be - j)) ∧ ∀ c x, ¬ c = 694 → s c x = σ0 c x := by
  have L : ∀ (d : Nat) (σ : Sg), a + d ≤ ae + 1 → (∀ c x, ¬ c = 694 → σ c x = σ0 c x) → (∀ i' j', a + d ≤ i' → i' ≤ ae → b ≤ j' → j' ≤ be → σ 694 (65 * i' + j') = lt f g ae be (ae - i') (be - j')) → ∃ s, (∀ d6 d7 d8 d9, C265_3 a ae b be (((a + d : Nat) : Int) - 1) d6 d7 d8 d9 σ (rV s)) ∧ (∀ i j, a ≤ i → i ≤ ae → b ≤ j → j ≤ be → s 694 (65 * i + j) = lt f g ae be (ae - i) (be - j)) ∧ ∀ c x, ¬ c = 694 → s c x = σ0 c x := by
    intro d
    induction d with
    | zero =>
      intro σ hd hF hR
      refine ⟨σ, fun d6 d7 d8 d9 => b265_3 ?_, fun i j q1 q2 q3 q4 => hR i j (by omega) q2 q3 q4, hF⟩
      rw [if_neg (by omega)]
    | succ d ih =>
      intro σ hd hF hR
      obtain ⟨s1, c1, c2, c3⟩ := l265b (i := a + d) ha hb h1 h2 h3 h4 hf hg (by omega) (be + 1 - b) σ (by omega) hF (fun i' j' q1 q2 q3 q4 => hR i' j' (by omega) q2 q3 q4) (fun j' q1 q2 => by omega)
      obtain ⟨s, e1, e2, e3⟩ := ih s1 (by omega) c2 (fun i' j' q1 q2 q3 q4 => c3 i' j' q1 q2 q3 q4)
      refine ⟨s, fun d6 d7 d8 d9 => b265_3 ?_, e2, e3⟩
      rw [show ((a + (d + 1) : Nat) : Int) - 1 = ((a + d : Nat) : Int) by omega, if_pos (by omega)]
      rw [show ((a + d : Nat) : Int) - 1 = ((a + d : Nat) : Int) + (-1) by omega] at e1
      have z := c1 e1 d7 d8 d9
      rw [show ((b + (be + 1 - b) : Nat) : Int) - 1 = (be : Int) by omega] at z
      exact z
  obtain ⟨s, e1, e2, e3⟩ := L (ae + 1 - a) σ0 (by omega) (fun _ _ _ => rfl) (fun i' j' q1 q2 q3 q4 => by omega)
  rw [show ((a + (ae + 1 - a) : Nat) : Int) - 1 = (ae : Int) by omega] at e1
  exact ⟨s, b265 (e1 _ _ _ _), e2, e3⟩
/-- the reference's rows are loaded -/
theorem d263 {A off n N : Nat} {σ : Sg} (hA : qA A 0 N = true) (hne : ¬ A = 691) (hA2 : ¬ A = 682) (h1 : off + n ≤ N) (h2 : n ≤ 64) (h3 : N ≤ 5000) : ∃ s, Dd 263 [vA 682, vA A, vI off, vI n] σ (rV s) ∧ (∀ i, i < n → s 691 i = σ A (off + i)) ∧ s 682 12 = (n : Nat) ∧ ∀ c x, ¬ c = 691 → ¬ (c = 682 ∧ x = 12) → s c x = σ c x := by
  have L : ∀ (d k : Nat) (σ' : Sg), k + d = n → (∀ c x, ¬ c = 691 → σ' c x = upS σ 682 12 n c x) → (∀ i, i < k → σ' 691 i = (upS σ 682 12 n) A (off + i)) → ∃ s, C263_8 A off n k σ' (rV s) ∧ (∀ i, i < n → s 691 i = (upS σ 682 12 n) A (off + i)) ∧ ∀ c x, ¬ c = 691 → s c x = upS σ 682 12 n c x := by
    intro d
    induction d with
    | zero =>
      intro k σ' hk hF hv
      refine ⟨σ', b263_8 hA ?_, fun i hi => hv i (by omega), hF⟩
      rw [if_neg (by omega)]
    | succ d ih =>
      intro k σ' hk hF hv
      obtain ⟨s, a1, a2, a3⟩ := ih (k + 1) (upS σ' 691 k (σ' A (off + k))) (by omega) (fun c x h => by rw [up_a h]; exact hF c x h) (fun i hi => by
        by_cases y : i = k
        · rw [y, up_s]; exact hF _ _ hne
        · rw [up_k y]; exact hv i (by omega))
      refine ⟨s, b263_8 hA ?_, a2, a3⟩
      rw [if_pos (by omega), show ((k : Nat) : Int).toNat = k by omega, show ((off : Int) + (k : Int)).toNat = off + k by omega, show (k : Int) + 1 = ((k + 1 : Nat) : Int) by omega]
      exact ⟨by omega, by omega, by omega, by omega, a1⟩
  obtain ⟨s, e1, e2, e3⟩ := L n 0 (upS σ 682 12 n) (by omega) (fun _ _ _ => rfl) (fun i hi => absurd hi (Nat.not_lt_zero i))
  refine ⟨s, b263 e1, fun i hi => by rw [e2 i hi, up_a hA2], by rw [e3 _ _ (by decide), up_s], fun c x h h' => ?_⟩
  rw [e3 c x h]
  unfold upS
  rw [if_neg h']
theorem d264 {A off n N : Nat} {σ : Sg} (hA : qA A 0 N = true) (hne : ¬ A = 692) (hA2 : ¬ A = 682) (h1 : off + n ≤ N) (h2 : n ≤ 64) (h3 : N ≤ 5000) : ∃ s, Dd 264 [vA 682, vA A, vI off, vI n] σ (rV s) ∧ (∀ i, i < n → s 692 i = σ A (off + i)) ∧ s 682 13 = (n : Nat) ∧ ∀ c x, ¬ c = 692 → ¬ (c = 682 ∧ x = 13) → s c x = σ c x := by
  have L : ∀ (d k : Nat) (σ' : Sg), k + d = n → (∀ c x, ¬ c = 692 → σ' c x = upS σ 682 13 n c x) → (∀ i, i < k → σ' 692 i = (upS σ 682 13 n) A (off + i)) → ∃ s, C264_8 A off n k σ' (rV s) ∧ (∀ i, i < n → s 692 i = (upS σ 682 13 n) A (off + i)) ∧ ∀ c x, ¬ c = 692 → s c x = upS σ 682 13 n c x := by
    intro d
    induction d with
    | zero =>
      intro k σ' hk hF hv
      refine ⟨σ', b264_8 hA ?_, fun i hi => hv i (by omega), hF⟩
      rw [if_neg (by omega)]
    | succ d ih =>
      intro k σ' hk hF hv
      obtain ⟨s, a1, a2, a3⟩ := ih (k + 1) (upS σ' 692 k (σ' A (off + k))) (by omega) (fun c x h => by rw [up_a h]; exact hF c x h) (fun i hi => by
        by_cases y : i = k
        · rw [y, up_s]; exact hF _ _ hne
        · rw [up_k y]; exact hv i (by omega))
      refine ⟨s, b264_8 hA ?_, a2, a3⟩
      rw [if_pos (by omega), show ((k : Nat) : Int).toNat = k by omega, show ((off : Int) + (k : Int)).toNat = off + k by omega, show (k : Int) + 1 = ((k + 1 : Nat) : Int) by omega]
      exact ⟨by omega, by omega, by omega, by omega, a1⟩
  obtain ⟨s, e1, e2, e3⟩ := L n 0 (upS σ 682 13 n) (by omega) (fun _ _ _ => rfl) (fun i hi => absurd hi (Nat.not_lt_zero i))
  refine ⟨s, b264 e1, fun i hi => by rw [e2 i hi, up_a hA2], by rw [e3 _ _ (by decide), up_s], fun c x h h' => ?_⟩
  rw [e3 c x h]
  unfold upS
  rw [if_neg h']
end
-- DRAFT 91.table2.lean
/-! The comparer begins; how many pairs; keptByTable. -/
noncomputable section
theorem cpC : isRow 333 = true ∧ cap 333 = 40 ∧ isRow 335 = true ∧ cap 335 = 40 ∧ isRow 337 = true ∧ cap 337 = 40 ∧ isRow 343 = true ∧ cap 343 = 640 := by decide +kernel
/-- Comparer.begin -/
theorem d19 {σ : Sg} {x1 x2 n1 n2 : Nat} (w : WF σ) (w1 : isRow x1 = true) (w2 : isRow x2 = true) (z1 : σ x1 1 = (n1 : Nat)) (z2 : σ x2 1 = (n2 : Nat)) (h1 : n1 ≤ 40) (h2 : n2 ≤ 40) (e1 : x1 < 332 ∨ 344 < x1) (e2 : x2 < 332 ∨ 344 < x2) : ∃ s, Dd 19 [vA 332, vA x1, vA x2] σ (rV s) ∧ WF s ∧ s 333 1 = (n1 : Nat) ∧ s 335 1 = (n2 : Nat) ∧ s 337 1 = (n1 : Nat) ∧ s 343 1 = 0 ∧ (∀ i, i < n1 → s 334 i = σ (x1 + 1) i) ∧ (∀ i, i < n2 → s 336 i = σ (x2 + 1) i) ∧ (∀ i, i < n1 → s 338 i = -1) ∧ ∀ c k, ¬ (333 ≤ c ∧ c ≤ 338) → ¬ (c = 343 ∧ k = 1) → s c k = σ c k := by
  obtain ⟨r333, c333, r335, c335, r337, c337, r343, c343⟩ := cpC
  obtain ⟨s1, es1⟩ : ∃ s1, s1 = bcS σ 333 x1 := ⟨_, rfl⟩
  have f1 : ∀ c k, ¬ c = 333 → ¬ c = 334 → s1 c k = σ c k := fun c k a b => by rw [es1]; exact bc_off a b
  have v1 : s1 333 1 = (n1 : Nat) := by rw [es1, bc_sz (by rw [c333]; omega)]; exact z1
  have v1' : ∀ i, i < n1 → s1 334 i = σ (x1 + 1) i := fun i hi => by rw [es1]; exact bc_val (a := 333) (by rw [c333]; omega) (by omega) (by omega)
  obtain ⟨s2, es2⟩ : ∃ s2, s2 = bcS s1 335 x2 := ⟨_, rfl⟩
  have f2 : ∀ c k, ¬ c = 335 → ¬ c = 336 → s2 c k = s1 c k := fun c k a b => by rw [es2]; exact bc_off a b
  have g2 : ∀ k, s1 x2 k = σ x2 k := fun k => f1 _ _ (by omega) (by omega)
  have v2 : s2 335 1 = (n2 : Nat) := by rw [es2, bc_sz (by rw [g2, c335]; omega), g2]; exact z2
  have v2' : ∀ i, i < n2 → s2 336 i = σ (x2 + 1) i := fun i hi => by
    rw [es2, bc_val (a := 335) (by rw [g2, c335]; omega) (by omega) (by rw [g2]; omega), f1 _ _ (by omega) (by omega)]
  obtain ⟨s3, es3⟩ : ∃ s3, s3 = flS s2 337 n1 (-1) := ⟨_, rfl⟩
  have f3 : ∀ c k, ¬ c = 337 → ¬ c = 338 → s3 c k = s2 c k := fun c k a b => by rw [es3]; exact fl_off a b
  have v3 : s3 337 1 = (n1 : Nat) := by rw [es3]; exact fl_sz (by omega) (by rw [c337]; omega)
  have v3' : ∀ i : Nat, i < n1 → s3 338 i = -1 := fun i hi => by rw [es3]; exact fl_val (a := 337) (by omega) (by rw [c337]; omega) (by omega)
  have q1 := d155 (σ := σ) (a := 333) r333 (WF_w w w1)
  have q2 := d155 (σ := s1) (a := 335) (b := x2) r335 ⟨w2, by rw [g2]; exact w x2 w2⟩
  have q3 := d146 (σ := s2) r333
  rw [f2 _ _ (by decide) (by decide), v1] at q3
  have q4 := d153 (σ := s2) (a := 337) (n := (n1 : Int)) (v := -1) r337
  have q5 := d152 (σ := s3) r343
  rw [← es1] at q1
  rw [← es2] at q2
  rw [← es3] at q4
  refine ⟨upS s3 343 1 0, b19 ⟨_, q1, _, q2, _, _, q3, _, q4, _, q5, rfl⟩, fun a ha => ?_, by rw [up_a (by decide), f3 _ _ (by decide) (by decide), f2 _ _ (by decide) (by decide)]; exact v1, by rw [up_a (by decide), f3 _ _ (by decide) (by decide)]; exact v2, by rw [up_a (by decide)]; exact v3, up_s, fun i hi => by rw [up_a (by decide), f3 _ _ (by decide) (by decide), f2 _ _ (by decide) (by decide)]; exact v1' i hi, fun i hi => by rw [up_a (by decide), f3 _ _ (by decide) (by decide)]; exact v2' i hi, fun i hi => by rw [up_a (by decide)]; exact v3' i hi, fun c k h h' => ?_⟩
  · by_cases a1 : a = 343
    · rw [a1, up_s, c343]; omega
    · rw [up_a a1]
      by_cases a2 : a = 337
      · rw [a2, v3, c337]; omega
      · have n338 := row_nx r337 ha
        rw [f3 _ _ a2 n338]
        by_cases a3 : a = 335
        · rw [a3, v2, c335]; omega
        · rw [f2 _ _ a3 (row_nx r335 ha)]
          by_cases a4 : a = 333
          · rw [a4, v1, c333]; omega
          · rw [f1 _ _ a4 (row_nx r333 ha)]
            exact w a ha
  · have : upS s3 343 1 0 c k = s3 c k := by unfold upS; rw [if_neg h']
    rw [this, f3 c k (by omega) (by omega), f2 c k (by omega) (by omega), f1 c k (by omega) (by omega)]
/-- Comparer.mostPairs -/
theorem d16 {σ : Sg} {x1 x2 n1 n2 : Nat} (w : WF σ) (w1 : isRow x1 = true) (w2 : isRow x2 = true) (z1 : σ x1 1 = (n1 : Nat)) (z2 : σ x2 1 = (n2 : Nat)) (h1 : n1 ≤ 40) (h2 : n2 ≤ 40) (e1 : x1 < 332 ∨ 344 < x1) (e2 : x2 < 332 ∨ 344 < x2) : ∃ s, Dd 16 [vA 332, vA x1, vA x2] σ (rI (lt (σ (x1 + 1)) (σ (x2 + 1)) n1 n2 n1 n2) s) ∧ WF s ∧ ∀ c k, ¬ (333 ≤ c ∧ c ≤ 338) → ¬ (c = 343 ∧ k = 1) → ¬ c = 349 → s c k = σ c k := by
  obtain ⟨r333, c333, r335, c335, -⟩ := cpC
  obtain ⟨s1, a1, W, a2, a3, a4, a5, a6, a7, a8, a9⟩ := d19 w w1 w2 z1 z2 h1 h2 e1 e2
  obtain ⟨s2, c1, c2, c3⟩ := d21 (σ0 := s1) (f := σ (x1 + 1)) (g := σ (x2 + 1)) (Nat.zero_le n1) (Nat.zero_le n2) (Nat.le_refl n1) (Nat.le_refl n2) h1 h2 (WF_w W r333) (WF_w W r335) a2 a3 a6 a7
  have q1 := d146 (σ := s1) r333
  have q2 := d146 (σ := s1) r335
  rw [a2] at q1
  rw [a3] at q2
  have q3 := d22 (σ := s2) (i := 0) (j := 0) (by decide) (by decide)
  rw [c2 0 0 (Nat.le_refl 0) (Nat.zero_le n1) (Nat.le_refl 0) (Nat.zero_le n2)] at q3
  refine ⟨s2, b16 ⟨_, a1, _, _, q1, _, _, q2, _, c1, _, _, q3, rfl⟩, WF_e (fun a ha => c3 a 1 ?_) W, fun c k y1 y2 y3 => by rw [c3 c k y3, a9 c k y1 y2]⟩
  intro e
  subst e
  exact absurd ha (by decide +kernel)
theorem q683 : qA 683 0 64 = true := by decide +kernel
/-- the reference's two texts -/
theorem d276 {t u n1 n2 : Nat} {σ : Sg} (ht : t < 4) (hu : u < 4) (h1 : σ 684 t = (n1 : Nat)) (h2 : σ 684 u = (n2 : Nat)) (h3 : n1 ≤ 16) (h4 : n2 ≤ 16) : ∃ s, Dd 276 [vA 682, vI t, vI u] σ (rV s) ∧ (∀ i, i < n1 → s 691 i = σ 683 (16 * t + i)) ∧ (∀ i, i < n2 → s 692 i = σ 683 (16 * u + i)) ∧ s 682 12 = (n1 : Nat) ∧ s 682 13 = (n2 : Nat) ∧ ∀ c x, ¬ c = 691 → ¬ c = 692 → ¬ (c = 682 ∧ (x = 12 ∨ x = 13)) → s c x = σ c x := by
  obtain ⟨s1, a1, a2, a3, a4⟩ := d263 (A := 683) (off := 16 * t) (n := n1) (σ := σ) q683 (by decide) (by decide) (by omega) (by omega) (by decide)
  obtain ⟨s2, c1, c2, c3, c4⟩ := d264 (A := 683) (off := 16 * u) (n := n2) (σ := s1) q683 (by decide) (by decide) (by omega) (by omega) (by decide)
  refine ⟨s2, b276 ⟨by omega, by omega, s1, ?_, by omega, by omega, s2, ?_, rfl⟩, fun i hi => by rw [c4 _ _ (by decide) (by omega)]; exact a2 i hi, fun i hi => by rw [c2 i hi, a4 _ _ (by decide) (by omega)], by rw [c4 _ _ (by decide) (by omega)]; exact a3, c3, fun c x y1 y2 y3 => by rw [c4 c x y2 (by omega), a4 c x y1 (by omega)]⟩
  · rw [show ((t : Nat) : Int).toNat = t by omega, h1, show 16 * (t : Int) = ((16 * t : Nat) : Int) by omega]
    exact a1
  · rw [show ((u : Nat) : Int).toNat = u by omega, a4 _ _ (by decide) (by omega), h2, show 16 * (u : Int) = ((16 * u : Nat) : Int) by omega]
    exact c1
/-- a text, both sides -/
theorem rt_two {σ : Sg} {c : Int} {t : Nat} (H : Rel c σ) (ht : t < 4) : ∃ n : Nat, n ≤ 16 ∧ isRow (2 + 2 * t) = true ∧ σ (2 + 2 * t) 1 = (n : Nat) ∧ σ 684 t = (n : Nat) ∧ (∀ i, i < n → σ 683 (16 * t + i) = σ (2 + 2 * t + 1) i) ∧ ∀ i, i < n → isLn (σ (2 + 2 * t + 1) i) = true := by
  have h := rel_t H (t := (t : Int)) (by omega)
  rw [show ((t : Nat) : Int).toNat = t by omega] at h
  obtain ⟨n, hn⟩ := Int.eq_ofNat_of_zero_le h.2.1
  have hr := (el_1 (i := (t : Int)) (by omega)).2
  rw [show ((t : Nat) : Int).toNat = t by omega] at hr
  obtain ⟨⟨g1, g2⟩, g3⟩ := H.2.2.1 t ht
  exact ⟨n, by omega, hr, hn, by omega, fun i hi => (g2 i (by omega)).symm, fun i hi => g3 i (by omega)⟩
theorem o8 {σ : Sg} {c a1 a2 : Int} (H : Rel c σ) : OpR 398 279 [vA 0, vI a1, vI a2, vA 726] [vA 682, vI a1, vI a2] σ (c + 1) := by
  by_cases g1 : a1 < 0
  · exact x8_0 H g1
  by_cases g2 : 4 ≤ a1
  · exact x8_1 H g2
  by_cases g3 : a2 < 0
  · exact x8_2 H (by omega) g3
  by_cases g4 : 4 ≤ a2
  · exact x8_3 H (by omega) g4
  obtain ⟨t, rfl⟩ := Int.eq_ofNat_of_zero_le (show 0 ≤ a1 by omega)
  obtain ⟨u, rfl⟩ := Int.eq_ofNat_of_zero_le (show 0 ≤ a2 by omega)
  obtain ⟨n1, b1, r1, z1, m1, v1, -⟩ := rt_two H (t := t) (by omega)
  obtain ⟨n2, b2, r2, z2, m2, v2, -⟩ := rt_two H (t := u) (by omega)
  have e227 := d227_ok (σ := σ) (t := (t : Int)) (by omega)
  have f227 := d227_ok (σ := σ) (t := (u : Int)) (by omega)
  rw [show ((t : Nat) : Int).toNat = t by omega] at e227
  rw [show ((u : Nat) : Int).toNat = u by omega] at f227
  obtain ⟨s1, a1', W1, a3⟩ := d16 H.1 r1 r2 z1 z2 (by omega) (by omega) (by omega) (by omega)
  obtain ⟨L, hL⟩ : ∃ L, L = lt (σ (2 + 2 * t + 1)) (σ (2 + 2 * u + 1)) n1 n2 n1 n2 := ⟨_, rfl⟩
  rw [← hL] at a1'
  have hA := b398 (Or.inl ⟨_, _, b180 (Or.inl ⟨_, _, e227, r1, Or.inl ⟨_, _, f227, r2, _, _, a1', rfl⟩⟩), rfl⟩)
  have s2m : ∀ a x, 682 ≤ a → ¬ a = 726 → ¬ (a = 682 ∧ x = 0) → upS (upS s1 726 ((0 : Int).toNat) L) 682 0 0 a x = σ a x := by
    intro a x y1 y2 y3
    have : upS (upS s1 726 ((0 : Int).toNat) L) 682 0 0 a x = upS s1 726 ((0 : Int).toNat) L a x := by
      unfold upS
      rw [if_neg y3]
    rw [this, up_a y2]
    exact a3 a x (by omega) (by omega) (by omega)
  obtain ⟨s3, c1, c2, c3, c4, c5, c6⟩ := d276 (t := t) (u := u) (n1 := n1) (n2 := n2) (σ := upS (upS s1 726 ((0 : Int).toNat) L) 682 0 0) (by omega) (by omega) (by rw [s2m _ _ (by omega) (by omega) (by omega)]; exact m1) (by rw [s2m _ _ (by omega) (by omega) (by omega)]; exact m2) b1 b2
  obtain ⟨s4, e1, e2, e3⟩ := d265 (σ0 := s3) (f := σ (2 + 2 * t + 1)) (g := σ (2 + 2 * u + 1)) (Nat.zero_le n1) (Nat.zero_le n2) (Nat.le_refl n1) (Nat.le_refl n2) (by omega) (by omega) (fun i hi => by rw [c2 i hi, s2m _ _ (by decide) (by decide) (by omega)]; exact v1 i hi) (fun i hi => by rw [c3 i hi, s2m _ _ (by decide) (by decide) (by omega)]; exact v2 i hi)
  have v694 : s4 694 0 = L := by
    have := e2 0 0 (Nat.le_refl 0) (Nat.zero_le n1) (Nat.le_refl 0) (Nat.zero_le n2)
    rw [hL]
    exact this
  have hoff : ∀ a x, 682 ≤ a → ¬ a = 726 → ¬ (a = 682 ∧ (x = 0 ∨ x = 12 ∨ x = 13)) → ¬ (691 ≤ a ∧ a ≤ 694) → s4 a x = σ a x := by
    intro a x y1 y2 y3 y4
    rw [e3 a x (by omega), c6 a x (by omega) (by omega) (by omega)]
    exact s2m a x y1 y2 (by omega)
  have hlo : ∀ a x, a < 682 → s4 a x = s1 a x := fun a x y => by rw [e3 a x (by omega), c6 a x (by omega) (by omega) (by omega), up_a (by omega), up_a (by omega)]
  refine op_fin hA (b := L) (s2 := s4) ?_ ?_ (fun _ => ?_) (fun a x ha => ?_) (fun a x ha => hoff a x (by omega) (by omega) (by omega) (by omega)) (Rel_sc (by omega) (WF_fr (fun a x ha => hlo a x ha) W1) (fun a x hk => ?_) H)
  · refine b279 ⟨_, _, d247_ok (by omega), ?_⟩
    rw [if_neg (show ¬ (1 : Int) = 0 by decide)]
    refine ⟨_, _, d247_ok (by omega), ?_⟩
    rw [if_neg (show ¬ (1 : Int) = 0 by decide)]
    refine b279_20 ⟨_, _, d245, ?_⟩
    rw [if_pos rfl, if_neg (show ¬ (1 : Int) = 0 by decide)]
    refine ⟨s3, c1, s4, ?_, ?_⟩
    · rw [c4, c5]
      exact e1
    · show _ = rI (s4 694 0) s4
      rw [v694]
  · rw [e3 _ _ (by decide), c6 _ _ (by decide) (by decide) (by decide), up_s]
  · rw [e3 _ _ (by decide), c6 _ _ (by decide) (by decide) (by decide), up_a (by decide)]
    exact up_s
  · rw [up_a (by omega)]
    exact a3 a x (by omega) (by omega) (by omega)
  · by_cases y : a < 682
    · rw [hlo a x y]
      exact a3 a x (by omega) (by omega) (by omega)
    · exact hoff a x (by omega) (by omega) (by omega) (by omega)
end
-- DRAFT 92.dist.lean
/-! distance: the rows of changes. -/
noncomputable section
def sq (f : Nat → Int) : Nat → Nat → List Int
  | _, 0 => []
  | i, d + 1 => f i :: sq f (i + 1) d
theorem sq_len {f : Nat → Int} : ∀ (d i : Nat), (sq f i d).length = d := by
  intro d
  induction d with
  | zero => intro i; rfl
  | succ d ih =>
    intro i
    show (sq f (i + 1) d).length + 1 = d + 1
    rw [ih]
theorem app_c (m : List Int) (a : Int) (t : List Int) : m ++ (a :: t) = (m ++ [a]) ++ t := by
  rw [List.append_assoc]
  rfl
/-- what a hunk changes -/
def chl (O N : Nat → Int) (q : Nat × Nat × Nat × Nat) : List Int := 300000 :: (sq (fun x => 100000 + O x) q.1 q.2.1 ++ sq (fun x => 200000 + N x) q.2.2.1 q.2.2.2)
def chg (O N : Nat → Int) : List (Nat × Nat × Nat × Nat) → List Int
  | [] => []
  | q :: t => chl O N q ++ chg O N t
theorem chl_len {O N : Nat → Int} {q : Nat × Nat × Nat × Nat} : (chl O N q).length = 1 + q.2.1 + q.2.2.2 := by
  unfold chl
  rw [List.length_cons, List.length_append, sq_len, sq_len]
  omega
theorem chg_len {O N f : Nat → Int} {nb na : Nat} (V : VF f nb na) : ∀ (w i j : Nat), VI f nb na i j → (nb - i) + (na - j) ≤ w → (chg O N (hkF f nb na w i j)).length ≤ (nb - i) + (na - j) + 1 ∧ (((i < nb ∧ f i = (j : Int)) ∨ (i = nb ∧ j = na)) → (chg O N (hkF f nb na w i j)).length ≤ (nb - i) + (na - j)) ∧ ((i < nb ∧ f i = (j : Int)) → (chg O N (hkF f nb na w i j)).length + 1 ≤ (nb - i) + (na - j)) := by
  intro w
  induction w with
  | zero =>
    intro i j hi hw
    rw [hkF_e (by omega)]
    show 0 ≤ _ ∧ (_ → 0 ≤ _) ∧ (_ → 0 + 1 ≤ _)
    refine ⟨by omega, fun _ => by omega, fun h => ?_⟩
    have := h.1
    omega
  | succ w ih =>
    intro i j hi hw
    rw [hkF_s]
    by_cases h1 : i < nb ∨ j < na
    · rw [if_pos h1]
      by_cases h2 : i < nb ∧ f i = (j : Int)
      · rw [if_pos h2]
        have vi := VI_s V hi h2.1 h2.2
        obtain ⟨g1, -, -⟩ := ih _ _ vi (by omega)
        have b1 := h2.1
        have b2 := vi.2.1
        exact ⟨by omega, fun _ => by omega, fun _ => by omega⟩
      · rw [if_neg h2]
        obtain ⟨u1, u2, u3, u4⟩ := VI_h V hi h1 h2
        obtain ⟨g1, g2, g3⟩ := ih _ _ u1 (by omega)
        have n1 := nx_ge (f := f) (nb := nb) (i := i)
        have n2 := u1.1
        have n3 := u1.2.1
        show (chl O N (i, nx f nb i - i, j, j2F f nb na i - j) ++ chg O N (hkF f nb na w (nx f nb i) (j2F f nb na i))).length ≤ _ ∧ _
        have e : (chl O N (i, nx f nb i - i, j, j2F f nb na i - j) ++ chg O N (hkF f nb na w (nx f nb i) (j2F f nb na i))).length = 1 + (nx f nb i - i) + (j2F f nb na i - j) + (chg O N (hkF f nb na w (nx f nb i) (j2F f nb na i))).length := by
          rw [List.length_append, chl_len]
        have e' : (chg O N ((i, nx f nb i - i, j, j2F f nb na i - j) :: hkF f nb na w (nx f nb i) (j2F f nb na i))).length = 1 + (nx f nb i - i) + (j2F f nb na i - j) + (chg O N (hkF f nb na w (nx f nb i) (j2F f nb na i))).length := e
        rw [e']
        rw [e]
        rcases u4 with u4 | u4
        · have g := g3 u4
          refine ⟨by omega, fun h => ?_, fun h => absurd h h2⟩
          rcases h with h | h
          · exact absurd h h2
          · omega
        · have g := g2 (Or.inr u4)
          refine ⟨by omega, fun h => ?_, fun h => absurd h h2⟩
          rcases h with h | h
          · exact absurd h h2
          · omega
    · rw [if_neg h1]
      show 0 ≤ _ ∧ (_ → 0 ≤ _) ∧ (_ → 0 + 1 ≤ _)
      refine ⟨by omega, fun _ => by omega, fun h => ?_⟩
      have := h.1
      omega
/-- the class's row of changes -/
theorem l18c {P R h : Nat} {q : Nat × Nat × Nat × Nat} {l : List (Nat × Nat × Nat × Nat)} {O N : Nat → Int} {na : Nat} {σ0 : Sg} (hP : isPatch P = true) (hR : isRow R = true) (hRc : cap R = 40) (hRP : P + 12 < R ∨ R + 1 < P) (w9 : wR σ0 (P + 9)) (w3 : wR σ0 (P + 3)) (z3 : σ0 (P + 3) 1 = (na : Nat)) (hN : ∀ i, i < na → σ0 (P + 4) i = N i) (bN : ∀ i, i < na → 0 ≤ N i ∧ N i ≤ 1000000) (C : PC σ0 P l) (hq : l[h]? = some q) (hb : q.2.2.1 + q.2.2.2 ≤ na) : ∀ (d x : Nat) (σ : Sg) (m : List Int), x + d = q.2.2.1 + q.2.2.2 → (∀ c k, ¬ c = R → ¬ c = R + 1 → σ c k = σ0 c k) → Rw σ R m → m.length + d ≤ 40 → ∃ s, (∀ {o : Rs}, (∀ d3, C18_6 P R ((h + 1 : Nat) : Int) d3 s o) → C18_62 P R h x σ o) ∧ Rw s R (m ++ sq (fun x => 200000 + N x) x d) ∧ ∀ c k, ¬ c = R → ¬ c = R + 1 → s c k = σ0 c k := by
  have hlh := (List.getElem?_eq_some_iff.mp hq).1
  have z9 := C.1
  have w92 := w9.2.2
  have hc9 := cap_le w9.1
  have bq9 := C.2.2 h q hq
  intro d
  induction d with
  | zero =>
    intro x σ m hx hF hm hl
    have C' : PC σ P l := PC_fr (fun k => hF _ _ (by omega) (by omega)) (fun k => hF _ _ (by omega) (by omega)) C
    obtain ⟨-, -, -, e5⟩ := pc_at hP ⟨w9.1, by rw [hF _ _ (by omega) (by omega)]; exact w9.2⟩ C' hq
    refine ⟨σ, fun {o} hh => b18_62 hP hR ⟨_, _, e5, ?_⟩, by rw [show sq (fun x => 200000 + N x) x 0 = [] from rfl, List.append_nil]; exact hm, hF⟩
    rw [if_neg (by omega), show (h : Int) + 1 = ((h + 1 : Nat) : Int) by omega]
    exact ⟨by omega, hh _⟩
  | succ d ih =>
    intro x σ m hx hF hm hl
    have C' : PC σ P l := PC_fr (fun k => hF _ _ (by omega) (by omega)) (fun k => hF _ _ (by omega) (by omega)) C
    obtain ⟨-, -, -, e5⟩ := pc_at hP ⟨w9.1, by rw [hF _ _ (by omega) (by omega)]; exact w9.2⟩ C' hq
    have e147 := d147 (σ := σ) (a := P + 3) (i := (x : Int)) ⟨w3.1, by rw [hF _ _ (by omega) (by omega)]; exact w3.2⟩
    rw [at_on (n := na) (f := N) (by rw [hF _ _ (by omega) (by omega)]; exact z3) (fun i hi => by rw [hF _ _ (by omega) (by omega)]; exact hN i hi) (by omega)] at e147
    have r := Rw_ad (v := 200000 + N x) hm (by omega)
    obtain ⟨s, a1, a2, a3⟩ := ih (x + 1) (adS σ R (200000 + N x)) (m ++ [200000 + N x]) (by omega) (fun c k y1 y2 => by rw [ad_off y1 y2]; exact hF c k y1 y2) r (by rw [List.length_append]; simp; omega)
    have bx := bN x (by omega)
    refine ⟨s, fun {o} hh => b18_62 hP hR ⟨_, _, e5, ?_⟩, by
      rw [show sq (fun x => 200000 + N x) x (d + 1) = (200000 + N x) :: sq (fun x => 200000 + N x) (x + 1) d from rfl, app_c]
      exact a2, a3⟩
    rw [if_pos (by omega), show (x : Int) + 1 = ((x + 1 : Nat) : Int) by omega]
    exact ⟨_, _, e147, by omega, _, d149 (Rw_wR hR hm (by omega)), by omega, a1 hh⟩
theorem l18b {P R h : Nat} {q : Nat × Nat × Nat × Nat} {l : List (Nat × Nat × Nat × Nat)} {O : Nat → Int} {nb : Nat} {σ0 : Sg} (hP : isPatch P = true) (hR : isRow R = true) (hRc : cap R = 40) (hRP : P + 12 < R ∨ R + 1 < P) (w9 : wR σ0 (P + 9)) (w1 : wR σ0 (P + 1)) (z1 : σ0 (P + 1) 1 = (nb : Nat)) (hO : ∀ i, i < nb → σ0 (P + 2) i = O i) (bO : ∀ i, i < nb → 0 ≤ O i ∧ O i ≤ 1000000) (C : PC σ0 P l) (hq : l[h]? = some q) (hb : q.1 + q.2.1 ≤ nb) : ∀ (d x : Nat) (σ : Sg) (m : List Int), x + d = q.1 + q.2.1 → (∀ c k, ¬ c = R → ¬ c = R + 1 → σ c k = σ0 c k) → Rw σ R m → m.length + d ≤ 40 → ∃ s, (∀ {o : Rs}, C18_62 P R h (q.2.2.1 : Nat) s o → C18_26 P R h x σ o) ∧ Rw s R (m ++ sq (fun x => 100000 + O x) x d) ∧ ∀ c k, ¬ c = R → ¬ c = R + 1 → s c k = σ0 c k := by
  have hlh := (List.getElem?_eq_some_iff.mp hq).1
  have z9 := C.1
  have w92 := w9.2.2
  have hc9 := cap_le w9.1
  have bq9 := C.2.2 h q hq
  intro d
  induction d with
  | zero =>
    intro x σ m hx hF hm hl
    have C' : PC σ P l := PC_fr (fun k => hF _ _ (by omega) (by omega)) (fun k => hF _ _ (by omega) (by omega)) C
    obtain ⟨-, e2, e3, -⟩ := pc_at hP ⟨w9.1, by rw [hF _ _ (by omega) (by omega)]; exact w9.2⟩ C' hq
    refine ⟨σ, fun {o} hh => b18_26 hP hR ⟨_, _, e2, ?_⟩, by rw [show sq (fun x => 100000 + O x) x 0 = [] from rfl, List.append_nil]; exact hm, hF⟩
    rw [if_neg (by omega)]
    exact ⟨_, _, e3, hh⟩
  | succ d ih =>
    intro x σ m hx hF hm hl
    have C' : PC σ P l := PC_fr (fun k => hF _ _ (by omega) (by omega)) (fun k => hF _ _ (by omega) (by omega)) C
    obtain ⟨-, e2, e3, -⟩ := pc_at hP ⟨w9.1, by rw [hF _ _ (by omega) (by omega)]; exact w9.2⟩ C' hq
    have e147 := d147 (σ := σ) (a := P + 1) (i := (x : Int)) ⟨w1.1, by rw [hF _ _ (by omega) (by omega)]; exact w1.2⟩
    rw [at_on (n := nb) (f := O) (by rw [hF _ _ (by omega) (by omega)]; exact z1) (fun i hi => by rw [hF _ _ (by omega) (by omega)]; exact hO i hi) (by omega)] at e147
    have r := Rw_ad (v := 100000 + O x) hm (by omega)
    obtain ⟨s, a1, a2, a3⟩ := ih (x + 1) (adS σ R (100000 + O x)) (m ++ [100000 + O x]) (by omega) (fun c k y1 y2 => by rw [ad_off y1 y2]; exact hF c k y1 y2) r (by rw [List.length_append]; simp; omega)
    have bx := bO x (by omega)
    refine ⟨s, fun {o} hh => b18_26 hP hR ⟨_, _, e2, ?_⟩, by
      rw [show sq (fun x => 100000 + O x) x (d + 1) = (100000 + O x) :: sq (fun x => 100000 + O x) (x + 1) d from rfl, app_c]
      exact a2, a3⟩
    rw [if_pos (by omega), show (x : Int) + 1 = ((x + 1 : Nat) : Int) by omega]
    exact ⟨_, _, e147, by omega, _, d149 (Rw_wR hR hm (by omega)), by omega, a1 hh⟩
theorem chg_c {O N : Nat → Int} {q : Nat × Nat × Nat × Nat} {t : List (Nat × Nat × Nat × Nat)} {m : List Int} : m ++ chg O N (q :: t) = m ++ [300000] ++ sq (fun x => 100000 + O x) q.1 q.2.1 ++ sq (fun x => 200000 + N x) q.2.2.1 q.2.2.2 ++ chg O N t := by
  show m ++ (chl O N q ++ chg O N t) = _
  unfold chl
  rw [List.cons_append, app_c]
  simp only [List.append_assoc]
/-- Comparer.listChanges -/
theorem d18 {P R nb na : Nat} {l : List (Nat × Nat × Nat × Nat)} {O N : Nat → Int} {σ : Sg} (hP : isPatch P = true) (hR : isRow R = true) (hRc : cap R = 40) (hRP : P + 12 < R ∨ R + 1 < P) (w : WF σ) (z1 : σ (P + 1) 1 = (nb : Nat)) (z3 : σ (P + 3) 1 = (na : Nat)) (hO : ∀ i, i < nb → σ (P + 2) i = O i) (hN : ∀ i, i < na → σ (P + 4) i = N i) (bO : ∀ i, i < nb → 0 ≤ O i ∧ O i ≤ 1000000) (bN : ∀ i, i < na → 0 ≤ N i ∧ N i ≤ 1000000) (C : PC σ P l) (hbd : ∀ q, q ∈ l → q.1 + q.2.1 ≤ nb ∧ q.2.2.1 + q.2.2.2 ≤ na) (hl : (chg O N l).length ≤ 40) : ∃ s, Dd 18 [vA P, vA R] σ (rV s) ∧ Rw s R (chg O N l) ∧ ∀ c k, ¬ c = R → ¬ c = R + 1 → s c k = σ c k := by
  have w9 := WF_w w (pat_9 hP)
  have z9 := C.1
  have w92 := w9.2.2
  have hc9 := cap_le w9.1
  have L : ∀ (d h : Nat) (σ' : Sg) (m : List Int), h + d = l.length → (∀ c k, ¬ c = R → ¬ c = R + 1 → σ' c k = σ c k) → Rw σ' R m → m.length + (chg O N (l.drop h)).length ≤ 40 → ∃ s, (∀ d3, C18_6 P R h d3 σ' (rV s)) ∧ Rw s R (m ++ chg O N (l.drop h)) ∧ ∀ c k, ¬ c = R → ¬ c = R + 1 → s c k = σ c k := by
    intro d
    induction d with
    | zero =>
      intro h σ' m hh hF hm hlen
      have C' : PC σ' P l := PC_fr (fun k => hF _ _ (by omega) (by omega)) (fun k => hF _ _ (by omega) (by omega)) C
      refine ⟨σ', fun d3 => b18_6 hP hR ⟨_, _, d98' hP C', ?_⟩, ?_, hF⟩
      · rw [if_neg (by omega)]
      · rw [List.drop_eq_nil_of_le (by omega), show chg O N [] = [] from rfl, List.append_nil]
        exact hm
    | succ d ih =>
      intro h σ' m hh hF hm hlen
      have hlt : h < l.length := by omega
      obtain ⟨q, hq⟩ : ∃ q, q = l[h] := ⟨_, rfl⟩
      have hq2 : l[h]? = some q := by rw [hq]; exact List.getElem?_eq_getElem hlt
      obtain ⟨b1, b2⟩ := hbd q (by rw [hq]; exact List.getElem_mem hlt)
      have C' : PC σ' P l := PC_fr (fun k => hF _ _ (by omega) (by omega)) (fun k => hF _ _ (by omega) (by omega)) C
      rw [List.drop_eq_getElem_cons hlt, ← hq] at hlen ⊢
      have hlen2 : (chg O N (q :: l.drop (h + 1))).length = 1 + q.2.1 + q.2.2.2 + (chg O N (l.drop (h + 1))).length := by
        show (chl O N q ++ chg O N (l.drop (h + 1))).length = _
        rw [List.length_append, chl_len]
      have r := Rw_ad (v := 300000) hm (by omega)
      have hF1 : ∀ c k, ¬ c = R → ¬ c = R + 1 → adS σ' R 300000 c k = σ c k := fun c k y1 y2 => by rw [ad_off y1 y2]; exact hF c k y1 y2
      obtain ⟨s1, a1, a2, a3⟩ := l18b (h := h) (q := q) hP hR hRc hRP w9 (WF_w w (pat_1 hP)) z1 hO bO C hq2 b1 q.2.1 q.1 (adS σ' R 300000) (m ++ [300000]) rfl hF1 r (by rw [List.length_append]; simp; omega)
      obtain ⟨s2, c1, c2, c3⟩ := l18c (h := h) (q := q) (O := O) hP hR hRc hRP w9 (WF_w w (pat_3 hP)) z3 hN bN C hq2 b2 q.2.2.2 q.2.2.1 s1 _ rfl a3 a2 (by rw [List.length_append, List.length_append, sq_len]; simp; omega)
      obtain ⟨s, e1, e2, e3⟩ := ih (h + 1) s2 _ (by omega) c3 c2 (by rw [List.length_append, List.length_append, List.length_append, sq_len, sq_len]; simp; omega)
      have C1 : PC (adS σ' R 300000) P l := PC_fr (fun k => hF1 _ _ (by omega) (by omega)) (fun k => hF1 _ _ (by omega) (by omega)) C
      obtain ⟨f0, -, -, -⟩ := pc_at hP ⟨w9.1, by rw [hF1 _ _ (by omega) (by omega)]; exact w9.2⟩ C1 hq2
      refine ⟨s, fun d3 => b18_6 hP hR ⟨_, _, d98' hP C', ?_⟩, ?_, e3⟩
      · rw [if_pos (by omega)]
        exact ⟨_, d149 (Rw_wR hR hm (by omega)), _, _, f0, a1 (c1 e1)⟩
      · rw [chg_c]
        exact e2
  obtain ⟨s, e1, e2, e3⟩ := L l.length 0 (upS σ R 1 0) [] (by omega) (fun c k y1 y2 => up_a y1) Rw_nil (by
    show 0 + (chg O N l).length ≤ 40
    omega)
  exact ⟨s, b18 hR ⟨_, d152 hR, e1 _⟩, e2, e3⟩
end
-- DRAFT 93.dist2.lean
/-! distance: the reference, and the call. -/
noncomputable section
theorem isLn_le {x : Int} (h : isLn x = true) : 0 ≤ x ∧ x ≤ 1000000 := by
  refine ⟨isLn_nn h, ?_⟩
  rcases isLn_iff.mp h with e | e | e
  · omega
  · rcases e with e | e | e <;> omega
  · omega
theorem d281 {σ : Sg} {l : List (Nat × Nat × Nat × Nat)} {h : Nat} {q : Nat × Nat × Nat × Nat} (K : HK σ 0 0 l) (hl : l.length ≤ 120) (hq : l[h]? = some q) (hb : q.1 + q.2.1 ≤ 100) : Dd 281 [vA 682, vI h] σ (rI ((q.1 + q.2.1 : Nat) : Int) σ) := by
  obtain ⟨v0, v1, v2, v3⟩ := K h q hq
  rw [show 128 * 0 + (0 + h) = h by omega] at v0 v1
  have hlh := (List.getElem?_eq_some_iff.mp hq).1
  refine b281 ⟨by omega, by omega, ?_, ?_⟩
  · rw [show ((h : Nat) : Int).toNat = h by omega, v0, v1]; omega
  · rw [show ((h : Nat) : Int).toNat = h by omega, v0, v1, show ((q.1 : Nat) : Int) + (q.2.1 : Nat) = ((q.1 + q.2.1 : Nat) : Int) by omega]
theorem HK_fr {σ s : Sg} {l : List (Nat × Nat × Nat × Nat)} {wh nn : Nat} (h : ∀ c k, 700 ≤ c ∧ c ≤ 703 → s c k = σ c k) (K : HK σ wh nn l) : HK s wh nn l := by
  intro i q hq
  have := K i q hq
  rw [h _ _ (by decide), h _ _ (by decide), h _ _ (by decide), h _ _ (by decide)]
  exact this
theorem l318c {s0 n h na : Nat} {q : Nat × Nat × Nat × Nat} {l : List (Nat × Nat × Nat × Nat)} {N : Nat → Int} {σ0 : Sg} (hs : s0 < 44) (hna : na ≤ 100) (hl : l.length ≤ 120) (hN : ∀ i, i < na → σ0 686 (100 * s0 + i) = N i) (bN : ∀ i, i < na → 0 ≤ N i ∧ N i ≤ 1000000) (K : HK σ0 0 0 l) (hq : l[h]? = some q) (hb : q.2.2.1 + q.2.2.2 ≤ na) : ∀ (d x : Nat) (σ : Sg) (m : List Int), x + d = q.2.2.2 → (∀ c k, ¬ c = 705 → ¬ (c = 682 ∧ k = 32) → σ c k = σ0 c k) → Rm σ m → m.length + d ≤ 100 → ∃ s, (∀ {o : Rs}, (∀ d4, C318_14 s0 n ((h + 1 : Nat) : Int) d4 s o) → C318_73 s0 n h x σ o) ∧ Rm s (m ++ sq (fun x => 200000 + N x) (q.2.2.1 + x) d) ∧ ∀ c k, ¬ c = 705 → ¬ (c = 682 ∧ k = 32) → s c k = σ0 c k := by
  have hlh := (List.getElem?_eq_some_iff.mp hq).1
  obtain ⟨v0, v1, v2, v3⟩ := K h q hq
  rw [show 128 * 0 + (0 + h) = h by omega] at v0 v1 v2 v3
  intro d
  induction d with
  | zero =>
    intro x σ m hx hF hm hlen
    refine ⟨σ, fun {o} hh => b318_73 ⟨by omega, ?_⟩, by rw [show sq (fun x => 200000 + N x) (q.2.2.1 + x) 0 = [] from rfl, List.append_nil]; exact hm, hF⟩
    rw [show ((h : Nat) : Int).toNat = h by omega, hF _ _ (by omega) (by omega), v3, if_neg (by omega), show (h : Int) + 1 = ((h + 1 : Nat) : Int) by omega]
    exact ⟨by omega, hh _⟩
  | succ d ih =>
    intro x σ m hx hF hm hlen
    obtain ⟨s1, c1, c2, c3⟩ := d319 (v := 200000 + N (q.2.2.1 + x)) hm (by omega)
    obtain ⟨s, a1, a2, a3⟩ := ih (x + 1) s1 (m ++ [200000 + N (q.2.2.1 + x)]) (by omega) (fun c k y1 y2 => by rw [c3 c k y1 y2]; exact hF c k y1 y2) c2 (by rw [List.length_append]; simp; omega)
    have bx := bN (q.2.2.1 + x) (by omega)
    refine ⟨s, fun {o} hh => b318_73 ⟨by omega, ?_⟩, by
      rw [show sq (fun x => 200000 + N x) (q.2.2.1 + x) (d + 1) = (200000 + N (q.2.2.1 + x)) :: sq (fun x => 200000 + N x) (q.2.2.1 + x + 1) d from rfl, app_c]
      exact a2, a3⟩
    have ev : σ 686 (((100 * (s0 : Int)) + ((q.2.2.1 : Nat) : Int)) + (x : Int)).toNat = N (q.2.2.1 + x) := by
      rw [show (((100 * (s0 : Int)) + ((q.2.2.1 : Nat) : Int)) + (x : Int)).toNat = 100 * s0 + (q.2.2.1 + x) by omega, hF _ _ (by omega) (by omega)]
      exact hN _ (by omega)
    rw [show ((h : Nat) : Int).toNat = h by omega, hF 703 h (by omega) (by omega), v3, if_pos (by omega), hF 702 h (by omega) (by omega), v2, ev, show (x : Int) + 1 = ((x + 1 : Nat) : Int) by omega]
    exact ⟨by omega, by omega, by omega, by omega, by omega, by omega, _, c1, by omega, a1 hh⟩
theorem l318b {s0 n h nb : Nat} {q : Nat × Nat × Nat × Nat} {l : List (Nat × Nat × Nat × Nat)} {O : Nat → Int} {σ0 : Sg} (hs : s0 < 44) (hnb : nb ≤ 100) (hl : l.length ≤ 120) (hO : ∀ i, i < nb → σ0 685 (100 * s0 + i) = O i) (bO : ∀ i, i < nb → 0 ≤ O i ∧ O i ≤ 1000000) (K : HK σ0 0 0 l) (hq : l[h]? = some q) (hb : q.1 + q.2.1 ≤ nb) : ∀ (d x : Nat) (σ : Sg) (m : List Int), x + d = q.1 + q.2.1 → (∀ c k, ¬ c = 705 → ¬ (c = 682 ∧ k = 32) → σ c k = σ0 c k) → Rm σ m → m.length + d ≤ 100 → ∃ s, (∀ {o : Rs}, C318_73 s0 n h 0 s o → C318_34 s0 n h x σ o) ∧ Rm s (m ++ sq (fun x => 100000 + O x) x d) ∧ ∀ c k, ¬ c = 705 → ¬ (c = 682 ∧ k = 32) → s c k = σ0 c k := by
  have hlh := (List.getElem?_eq_some_iff.mp hq).1
  intro d
  induction d with
  | zero =>
    intro x σ m hx hF hm hlen
    have e := d281 (σ := σ) (HK_fr (fun c k hc => hF _ _ (by omega) (by omega)) K) hl hq (by omega)
    refine ⟨σ, fun {o} hh => b318_34 ⟨_, _, e, ?_⟩, by rw [show sq (fun x => 100000 + O x) x 0 = [] from rfl, List.append_nil]; exact hm, hF⟩
    rw [if_neg (by omega)]
    exact hh
  | succ d ih =>
    intro x σ m hx hF hm hlen
    have e := d281 (σ := σ) (HK_fr (fun c k hc => hF _ _ (by omega) (by omega)) K) hl hq (by omega)
    obtain ⟨s1, c1, c2, c3⟩ := d319 (v := 100000 + O x) hm (by omega)
    obtain ⟨s, a1, a2, a3⟩ := ih (x + 1) s1 (m ++ [100000 + O x]) (by omega) (fun c k y1 y2 => by rw [c3 c k y1 y2]; exact hF c k y1 y2) c2 (by rw [List.length_append]; simp; omega)
    have bx := bO x (by omega)
    refine ⟨s, fun {o} hh => b318_34 ⟨_, _, e, ?_⟩, by
      rw [show sq (fun x => 100000 + O x) x (d + 1) = (100000 + O x) :: sq (fun x => 100000 + O x) (x + 1) d from rfl, app_c]
      exact a2, a3⟩
    have ev : σ 685 ((100 * (s0 : Int)) + (x : Int)).toNat = O x := by
      rw [show ((100 * (s0 : Int)) + (x : Int)).toNat = 100 * s0 + x by omega, hF _ _ (by omega) (by omega)]
      exact hO _ (by omega)
    rw [if_pos (by omega), ev, show (x : Int) + 1 = ((x + 1 : Nat) : Int) by omega]
    exact ⟨by omega, by omega, by omega, by omega, _, c1, by omega, a1 hh⟩
/-- the reference's laysChanges -/
theorem d318 {s0 nb na : Nat} {O N F : Nat → Int} {σ : Sg} (hs : s0 < 44) (hnb : nb ≤ 100) (hna : na ≤ 100) (V : VF F nb na) (S : Slot σ s0 nb na O N F) (bO : ∀ i, i < nb → 0 ≤ O i ∧ O i ≤ 1000000) (bN : ∀ i, i < na → 0 ≤ N i ∧ N i ≤ 1000000) (hlen : (chg O N (hks F nb na)).length ≤ 60) : ∃ s, Dd 318 [vA 682, vI s0] σ (rV s) ∧ Rm s (chg O N (hks F nb na)) ∧ ∀ c k, ¬ c = 705 → ¬ (c = 682 ∧ k = 32) → ¬ (700 ≤ c ∧ c ≤ 704) → s c k = σ c k := by
  obtain ⟨t1, t2, t3, t4, t5⟩ := S
  obtain ⟨s1, a1, a2, a3, a4, a5⟩ := d280 (s := s0) (wh := 0) (σ := σ) hs (by decide) hnb hna V t1 t2 t5
  obtain ⟨l, hl⟩ : ∃ l, l = hks F nb na := ⟨_, rfl⟩
  have hbd : ∀ q, q ∈ l → q.1 + q.2.1 ≤ nb ∧ q.2.2.1 + q.2.2.2 ≤ na := fun q hq => by
    rw [hl] at hq
    obtain ⟨n, hn⟩ := List.getElem?_of_mem hq
    exact hks_bd V hn
  rw [← hl] at a1 a2 a3 a4 hlen ⊢
  have L : ∀ (d h : Nat) (σ' : Sg) (m : List Int), h + d = l.length → (∀ c k, ¬ c = 705 → ¬ (c = 682 ∧ k = 32) → σ' c k = s1 c k) → Rm σ' m → m.length + (chg O N (l.drop h)).length ≤ 60 → ∃ s, (∀ d4, C318_14 s0 (l.length : Nat) h d4 σ' (rV s)) ∧ Rm s (m ++ chg O N (l.drop h)) ∧ ∀ c k, ¬ c = 705 → ¬ (c = 682 ∧ k = 32) → s c k = s1 c k := by
    intro d
    induction d with
    | zero =>
      intro h σ' m hh hF hm hlen
      refine ⟨σ', fun d4 => b318_14 ?_, ?_, hF⟩
      · rw [if_neg (by omega)]
      · rw [List.drop_eq_nil_of_le (by omega), show chg O N [] = [] from rfl, List.append_nil]
        exact hm
    | succ d ih =>
      intro h σ' m hh hF hm hlen
      have hlt : h < l.length := by omega
      obtain ⟨q, hq⟩ : ∃ q, q = l[h] := ⟨_, rfl⟩
      have hq2 : l[h]? = some q := by rw [hq]; exact List.getElem?_eq_getElem hlt
      obtain ⟨b1, b2⟩ := hbd q (by rw [hq]; exact List.getElem_mem hlt)
      rw [List.drop_eq_getElem_cons hlt, ← hq] at hlen ⊢
      have hlen2 : (chg O N (q :: l.drop (h + 1))).length = 1 + q.2.1 + q.2.2.2 + (chg O N (l.drop (h + 1))).length := by
        show (chl O N q ++ chg O N (l.drop (h + 1))).length = _
        rw [List.length_append, chl_len]
      obtain ⟨s2, c1, c2, c3⟩ := d319 (v := 300000) hm (by omega)
      have hF1 : ∀ c k, ¬ c = 705 → ¬ (c = 682 ∧ k = 32) → s2 c k = s1 c k := fun c k y1 y2 => by rw [c3 c k y1 y2]; exact hF c k y1 y2
      obtain ⟨s3, e1, e2, e3⟩ := l318b (s0 := s0) (n := l.length) (h := h) (q := q) (l := l) (O := O) (σ0 := s1) hs hnb (by omega) (fun i hi => by rw [a5 _ _ (by omega) (by omega)]; exact t3 i hi) bO a2 hq2 b1 q.2.1 q.1 s2 (m ++ [300000]) rfl hF1 c2 (by rw [List.length_append]; simp; omega)
      obtain ⟨s4, f1, f2, f3⟩ := l318c (s0 := s0) (n := l.length) (h := h) (q := q) (l := l) (N := N) (σ0 := s1) hs hna (by omega) (fun i hi => by rw [a5 _ _ (by omega) (by omega)]; exact t4 i hi) bN a2 hq2 b2 q.2.2.2 0 s3 _ (by omega) e3 e2 (by rw [List.length_append, List.length_append, sq_len]; simp; omega)
      rw [Nat.add_zero] at f2
      obtain ⟨s, g1, g2, g3⟩ := ih (h + 1) s4 _ (by omega) f3 f2 (by rw [List.length_append, List.length_append, List.length_append, sq_len, sq_len]; simp; omega)
      obtain ⟨v0, v1, v2, v3⟩ := a2 h q hq2
      rw [show 128 * 0 + (0 + h) = h by omega] at v0
      refine ⟨s, fun d4 => b318_14 ?_, ?_, g3⟩
      · rw [if_pos (by omega)]
        refine ⟨_, c1, by omega, ?_⟩
        rw [show ((h : Nat) : Int).toNat = h by omega, hF1 _ _ (by omega) (by omega), v0]
        exact e1 (f1 g1)
      · rw [chg_c]
        exact g2
  have hn := hks_len V
  rw [← hl] at hn
  obtain ⟨s, e1, e2, e3⟩ := L l.length 0 (upS s1 682 32 0) [] (by omega) (fun c k y1 y2 => by unfold upS; rw [if_neg y2]) Rm_nil (by
    show 0 + (chg O N l).length ≤ 60
    omega)
  exact ⟨s, b318 ⟨_, _, a1, e1 _⟩, e2, fun c k y1 y2 y3 => by rw [e3 c k y1 y2, a5 c k (by omega) (by omega)]⟩
theorem cpCh : isRow 345 = true ∧ cap 345 = 40 ∧ isRow 347 = true ∧ cap 347 = 40 := by decide +kernel
theorem q705 : qA 705 0 160 = true := by decide +kernel
def lv (l : List Int) (i : Nat) : Int := (l[i]?).getD 0
theorem lv_get {l : List Int} {i : Nat} (h : i < l.length) : l[i]? = some (lv l i) := by
  unfold lv
  rw [List.getElem?_eq_getElem h]
  rfl
theorem o22 {σ : Sg} {c a1 a2 : Int} (H : Rel c σ) : OpR 411 320 [vA 0, vI a1, vI a2, vA 726] [vA 682, vI a1, vI a2] σ (c + 1) := by
  by_cases g1 : a1 < 0
  · exact x22_0 H g1
  by_cases g2 : σ 0 3 ≤ a1
  · exact x22_1 H g2
  have k1 : 0 ≤ a1 ∧ a1 < σ 0 3 := by omega
  by_cases g3 : a2 < 0
  · exact x22_2 H k1 g3
  by_cases g4 : σ 0 3 ≤ a2
  · exact x22_3 H k1 g4
  have k2 : 0 ≤ a2 ∧ a2 < σ 0 3 := by omega
  obtain ⟨a, rfl⟩ := Int.eq_ofNat_of_zero_le k1.1
  obtain ⟨b, rfl⟩ := Int.eq_ofNat_of_zero_le k2.1
  have hn := (rel_n H).1
  obtain ⟨hP, q1, q2, w1, w3⟩ := po_pat H k1.2
  obtain ⟨nb, na, b1, b2, N, S⟩ := po_slot q1 q2 w1 w3
  obtain ⟨hQ, r1, r2, y1, y3⟩ := po_pat H k2.2
  obtain ⟨nb', na', b3, b4, N', S'⟩ := po_slot r1 r2 y1 y3
  have e230 := d230_ok (σ := σ) k1 hn.2.2
  have f230 := d230_ok (σ := σ) k2 hn.2.2
  rw [show ((a : Int)).toNat = a by omega] at e230
  rw [show ((b : Int)).toNat = b by omega] at f230
  obtain ⟨i345, c345, i347, c347⟩ := cpCh
  have V := N.2.2.2.2.1
  have V' := N'.2.2.2.2.1
  have n1 := N.1
  have n3 := N.2.1
  have n1' := N'.1
  have n3' := N'.2.1
  have bO : ∀ i, i < nb → 0 ≤ σ (20 + 13 * a + 2) i ∧ σ (20 + 13 * a + 2) i ≤ 1000000 := fun i hi => isLn_le (q2.2.2.2.2.2.2.2.1 i (by omega))
  have bN : ∀ i, i < na → 0 ≤ σ (20 + 13 * a + 4) i ∧ σ (20 + 13 * a + 4) i ≤ 1000000 := fun i hi => isLn_le (q2.2.2.2.2.2.2.2.2.1 i (by omega))
  have bO' : ∀ i, i < nb' → 0 ≤ σ (20 + 13 * b + 2) i ∧ σ (20 + 13 * b + 2) i ≤ 1000000 := fun i hi => isLn_le (r2.2.2.2.2.2.2.2.1 i (by omega))
  have bN' : ∀ i, i < na' → 0 ≤ σ (20 + 13 * b + 4) i ∧ σ (20 + 13 * b + 4) i ≤ 1000000 := fun i hi => isLn_le (r2.2.2.2.2.2.2.2.2.1 i (by omega))
  have bd : ∀ q, q ∈ hks (σ (20 + 13 * a + 6)) nb na → q.1 + q.2.1 ≤ nb ∧ q.2.2.1 + q.2.2.2 ≤ na := fun q hq => by
    obtain ⟨n, hn⟩ := List.getElem?_of_mem hq
    exact hks_bd V hn
  have bd' : ∀ q, q ∈ hks (σ (20 + 13 * b + 6)) nb' na' → q.1 + q.2.1 ≤ nb' ∧ q.2.2.1 + q.2.2.2 ≤ na' := fun q hq => by
    obtain ⟨n, hn⟩ := List.getElem?_of_mem hq
    exact hks_bd V' hn
  have ln := (chg_len (O := σ (20 + 13 * a + 2)) (N := σ (20 + 13 * a + 4)) V (nb + na) 0 0 (VI_0 V) (by omega)).1
  have ln' := (chg_len (O := σ (20 + 13 * b + 2)) (N := σ (20 + 13 * b + 4)) V' (nb' + na') 0 0 (VI_0 V') (by omega)).1
  obtain ⟨l1, hl1⟩ : ∃ l, l = chg (σ (20 + 13 * a + 2)) (σ (20 + 13 * a + 4)) (hks (σ (20 + 13 * a + 6)) nb na) := ⟨_, rfl⟩
  obtain ⟨l2, hl2⟩ : ∃ l, l = chg (σ (20 + 13 * b + 2)) (σ (20 + 13 * b + 4)) (hks (σ (20 + 13 * b + 6)) nb' na') := ⟨_, rfl⟩
  have ln1 : l1.length ≤ 33 := by rw [hl1]; unfold hks; omega
  have ln2 : l2.length ≤ 33 := by rw [hl2]; unfold hks; omega
  obtain ⟨s1, a1', a2', a3'⟩ := d18 (R := 345) hP i345 c345 (by omega) H.1 n1 n3 (fun _ _ => rfl) (fun _ _ => rfl) bO bN (PC_of N (by omega) (by omega)) bd (by rw [← hl1]; omega)
  rw [← hl1] at a2'
  have W1 : WF s1 := WF_row (r := 345) (fun x hx hne => a3' x 1 hne (row_nx i345 hx)) (Rw_wR i345 a2' (by omega)).2 H.1
  have N1 : NP s1 (20 + 13 * b) nb' na' := by
    have e : ∀ j, j ≤ 10 → s1 (20 + 13 * b + j) = σ (20 + 13 * b + j) := fun j hj => funext fun x => a3' _ _ (by omega) (by omega)
    unfold NP PCS
    rw [e 1 (by omega), e 3 (by omega), e 5 (by omega), e 6 (by omega), e 7 (by omega), e 8 (by omega), e 9 (by omega), e 10 (by omega)]
    exact N'
  have e6 : s1 (20 + 13 * b + 6) = σ (20 + 13 * b + 6) := funext fun x => a3' _ _ (by omega) (by omega)
  have PC1 := PC_of N1 (show nb' ≤ 100 by omega) (show na' ≤ 100 by omega)
  rw [e6] at PC1
  obtain ⟨s2, c1, c2, c3⟩ := d18 (R := 347) (O := σ (20 + 13 * b + 2)) (N := σ (20 + 13 * b + 4)) hQ i347 c347 (by omega) W1 N1.1 N1.2.1 (fun i _ => a3' _ _ (by omega) (by omega)) (fun i _ => a3' _ _ (by omega) (by omega)) bO' bN' PC1 bd' (by rw [← hl2]; omega)
  rw [← hl2] at c2
  have W2 : WF s2 := WF_row (r := 347) (fun x hx hne => c3 x 1 hne (row_nx i347 hx)) (Rw_wR i347 c2 (by omega)).2 W1
  have z1 : s2 345 1 = (l1.length : Nat) := by rw [c3 _ _ (by decide) (by decide)]; exact a2'.1
  have z2 : s2 347 1 = (l2.length : Nat) := c2.1
  obtain ⟨s3, e1, W3, e3⟩ := d16 W2 i345 i347 z1 z2 (by omega) (by omega) (by omega) (by omega)
  have f1 : ∀ i, i < l1.length → s2 (345 + 1) i = lv l1 i := fun i hi => by
    rw [c3 _ _ (by decide) (by decide)]
    exact a2'.2 i _ (lv_get hi)
  have f2 : ∀ i, i < l2.length → s2 (347 + 1) i = lv l2 i := fun i hi => c2.2 i _ (lv_get hi)
  rw [lt_cg f1 f2 l1.length l2.length (Nat.le_refl _) (Nat.le_refl _)] at e1
  obtain ⟨L, hL⟩ : ∃ L, L = lt (lv l1) (lv l2) l1.length l2.length l1.length l2.length := ⟨_, rfl⟩
  have bL := lt_b (f := lv l1) (g := lv l2) (ae := l1.length) (be := l2.length) l1.length l2.length
  rw [← hL] at e1 bL
  have d1 := d146 (σ := s2) i345
  have d2 := d146 (σ := s2) i347
  rw [z1] at d1
  rw [z2] at d2
  obtain ⟨D, hD⟩ : ∃ D, D = ((l1.length : Nat) : Int) + (l2.length : Nat) - 2 * L := ⟨_, rfl⟩
  have hA : Dd 411 [vA 0, vI a, vI b, vA 726] σ (rI 0 (upS s3 726 ((0 : Int).toNat) D)) := by
    refine b411 (Or.inl ⟨_, _, b194 (Or.inl ⟨_, _, e230, hP, Or.inl ⟨_, _, f230, hQ, D, s3, b17 ⟨_, a1', _, c1, _, _, d1, _, _, d2, by omega, _, _, e1, by omega, by omega, ?_⟩, rfl⟩⟩), rfl⟩)
    rw [hD]
  have s3f : ∀ x k, ¬ (333 ≤ x ∧ x ≤ 349) → s3 x k = σ x k := fun x k y => by rw [e3 x k (by omega) (by omega) (by omega), c3 x k (by omega) (by omega), a3' x k (by omega) (by omega)]
  obtain ⟨t0, ht0⟩ : ∃ t0, t0 = upS (upS s3 726 ((0 : Int).toNat) D) 682 0 0 := ⟨_, rfl⟩
  have t0f : ∀ x k, ¬ (333 ≤ x ∧ x ≤ 349) → ¬ x = 726 → ¬ (x = 682 ∧ k = 0) → t0 x k = σ x k := by
    intro x k y1 y2 y3
    rw [ht0]
    have : upS (upS s3 726 ((0 : Int).toNat) D) 682 0 0 x k = upS s3 726 ((0 : Int).toNat) D x k := by unfold upS; rw [if_neg y3]
    rw [this, up_a y2]
    exact s3f x k y1
  have S0 : Slot t0 a nb na (σ (20 + 13 * a + 2)) (σ (20 + 13 * a + 4)) (σ (20 + 13 * a + 6)) := Slot_fr (fun x k h => t0f x k (by omega) (by omega) (by omega)) S
  obtain ⟨t1, f3, f4, f5⟩ := d318 (σ := t0) (s0 := a) (by omega) (by omega) (by omega) V S0 bO bN (by rw [← hl1]; omega)
  rw [← hl1] at f4
  obtain ⟨t2, g5, g6, g7, g8⟩ := d263 (A := 705) (off := 0) (n := l1.length) (σ := t1) q705 (by decide) (by decide) (by omega) (by omega) (by decide)
  have t2f : ∀ x k, ¬ (333 ≤ x ∧ x ≤ 349) → ¬ x = 726 → ¬ (x = 682 ∧ (k = 0 ∨ k = 12 ∨ k = 32)) → ¬ (700 ≤ x ∧ x ≤ 705) → ¬ x = 691 → t2 x k = σ x k := fun x k y1 y2 y3 y4 y5 => by rw [g8 x k y5 (by omega), f5 x k (by omega) (by omega) (by omega), t0f x k y1 y2 (by omega)]
  have S2 : Slot t2 b nb' na' (σ (20 + 13 * b + 2)) (σ (20 + 13 * b + 4)) (σ (20 + 13 * b + 6)) := Slot_fr (fun x k h => t2f x k (by omega) (by omega) (by omega) (by omega) (by omega)) S'
  obtain ⟨t3, h3, h4, h5⟩ := d318 (σ := t2) (s0 := b) (by omega) (by omega) (by omega) V' S2 bO' bN' (by rw [← hl2]; omega)
  rw [← hl2] at h4
  obtain ⟨t4, h6, h7, h8, h9⟩ := d264 (A := 705) (off := 0) (n := l2.length) (σ := t3) q705 (by decide) (by decide) (by omega) (by omega) (by decide)
  have v12 : t4 682 12 = (l1.length : Nat) := by rw [h9 _ _ (by decide) (by decide), h5 _ _ (by decide) (by decide) (by decide)]; exact g7
  obtain ⟨t5, i1, i2, i3⟩ := d265 (σ0 := t4) (f := lv l1) (g := lv l2) (Nat.zero_le l1.length) (Nat.zero_le l2.length) (Nat.le_refl l1.length) (Nat.le_refl l2.length) (by omega) (by omega) (fun i hi => by
    rw [h9 _ _ (by decide) (by omega), h5 _ _ (by decide) (by omega) (by decide), g6 i hi, Nat.zero_add]
    exact f4.2 i _ (lv_get hi)) (fun i hi => by
    rw [h7 i hi, Nat.zero_add]
    exact h4.2 i _ (lv_get hi))
  have v694 : t5 694 0 = L := by
    have := i2 0 0 (Nat.le_refl 0) (Nat.zero_le _) (Nat.le_refl 0) (Nat.zero_le _)
    rw [hL]
    exact this
  have hoff : ∀ x k, ¬ (333 ≤ x ∧ x ≤ 349) → ¬ x = 726 → ¬ (x = 682 ∧ (k = 0 ∨ k = 12 ∨ k = 13 ∨ k = 32)) → ¬ (700 ≤ x ∧ x ≤ 705) → ¬ (691 ≤ x ∧ x ≤ 694) → t5 x k = σ x k := fun x k y1 y2 y3 y4 y5 => by
    rw [i3 x k (by omega), h9 x k (by omega) (by omega), h5 x k (by omega) (by omega) (by omega)]
    exact t2f x k y1 y2 (by omega) y4 (by omega)
  have t5o : ∀ x k, ¬ (682 ≤ x ∧ x ≤ 725) → t5 x k = t0 x k := fun x k y => by
    rw [i3 x k (by omega), h9 x k (by omega) (by omega), h5 x k (by omega) (by omega) (by omega), g8 x k (by omega) (by omega), f5 x k (by omega) (by omega) (by omega)]
  have t5k : t5 682 0 = 0 := by
    rw [i3 _ _ (by decide), h9 _ _ (by decide) (by decide), h5 _ _ (by decide) (by decide) (by decide), g8 _ _ (by decide) (by decide), f5 _ _ (by decide) (by decide) (by decide), ht0, up_s]
  have hlo : ∀ x k, x < 682 → t5 x k = s3 x k := fun x k y => by rw [t5o x k (by omega), ht0, up_a (by omega), up_a (by omega)]
  refine op_fin hA (b := D) (s2 := t5) ?_ t5k (fun _ => ?_) (fun x k hx => ?_) (fun x k hx => hoff x k (by omega) (by omega) (by omega) (by omega) (by omega)) (Rel_sc (by omega) (WF_fr (fun x k hx => hlo x k hx) W3) (fun x k hk => hoff x k (by omega) (by omega) (by omega) (by omega) (by omega)) H)
  · refine b320 ⟨_, _, d248_ok (by rw [up_a (by decide), s3f _ _ (by decide)]; omega), ?_⟩
    rw [if_neg (show ¬ (1 : Int) = 0 by decide)]
    refine ⟨_, _, d248_ok (by rw [up_a (by decide), s3f _ _ (by decide)]; omega), ?_⟩
    rw [if_neg (show ¬ (1 : Int) = 0 by decide)]
    refine b320_22 ⟨_, _, d245, ?_⟩
    rw [if_pos rfl, if_neg (show ¬ (1 : Int) = 0 by decide), ← ht0]
    refine ⟨t1, f3, t2, ?_, t3, h3, t4, ?_, t5, ?_, ?_⟩
    · rw [f4.1]; exact g5
    · rw [h4.1]; exact h6
    · rw [v12, h8]; exact i1
    · rw [show ((0 : Int)).toNat = 0 from rfl, v694, i3 _ _ (by decide), i3 _ _ (by decide), v12, h8, hD]
      exact ⟨by omega, by omega, by omega, rfl⟩
  · rw [t5o _ _ (by decide), ht0, up_a (by decide)]; exact up_s
  · rw [up_a (by omega)]; exact s3f x k (by omega)
end
-- DRAFT 94.diff1.lean
/-! difference: what is paired, and the class's side. -/
noncomputable section
abbrev TS := (Nat → Int) × (Nat → Int)
abbrev fr1 (hA hB : Nat → Int) (s : TS) (n e : Nat) : Prop := s.1 n = -1 ∧ s.2 e = 0 ∧ ¬ hA n = 0 ∧ ¬ hB e = 0
def prS (s : TS) (n e : Nat) : TS := (fun x => if x = n then (e : Int) else s.1 x, fun x => if x = e then 1 else s.2 x)
def ts0 (hA hB : Nat → Int) : TS := (fun n => if ¬ hA n = 0 ∧ ¬ hB n = 0 then (n : Int) else -1, fun n => if ¬ hA n = 0 ∧ ¬ hB n = 0 then 1 else 0)
def pI (hA hB : Nat → Int) (sm : Nat → Nat → Bool) (n : Nat) : Nat → TS → TS
  | 0, s => s
  | d + 1, s => pI hA hB sm n d (if fr1 hA hB s n (5 - d) ∧ sm n (5 - d) = true then prS s n (5 - d) else s)
def pO (hA hB : Nat → Int) (sm : Nat → Nat → Bool) : Nat → TS → TS
  | 0, s => s
  | d + 1, s => pO hA hB sm d (pI hA hB sm (5 - d) 6 s)
abbrev BT := Int × Int × Int
def mI (hA hB : Nat → Int) (lk : Nat → Nat → Int) (s : TS) (n : Nat) : Nat → BT → BT
  | 0, b => b
  | d + 1, b => mI hA hB lk s n d (if fr1 hA hB s n (5 - d) ∧ b.1 < lk n (5 - d) then (lk n (5 - d), (n : Int), ((5 - d : Nat) : Int)) else b)
def mO (hA hB : Nat → Int) (lk : Nat → Nat → Int) (s : TS) : Nat → BT → BT
  | 0, b => b
  | d + 1, b => mO hA hB lk s d (mI hA hB lk s (5 - d) 6 b)
def mB (hA hB : Nat → Int) (lk : Nat → Nat → Int) (s : TS) : BT := mO hA hB lk s 6 (59, -1, -1)
def sA (hA hB : Nat → Int) (lk : Nat → Nat → Int) (s : TS) : TS := if (mB hA hB lk s).2.1 = -1 then s else prS s (mB hA hB lk s).2.1.toNat (mB hA hB lk s).2.2.toNat
def sN (hA hB : Nat → Int) (lk : Nat → Nat → Int) : Nat → TS → TS
  | 0, s => s
  | d + 1, s => sN hA hB lk d (sA hA hB lk s)
/-- the best is none, or two that are free -/
def okB (hA hB : Nat → Int) (s : TS) (b : BT) : Prop := (b.2.1 = -1 ∧ b.2.2 = -1) ∨ ∃ n e : Nat, n < 6 ∧ e < 6 ∧ b.2.1 = (n : Int) ∧ b.2.2 = (e : Int) ∧ fr1 hA hB s n e
theorem mI_ok {hA hB : Nat → Int} {lk : Nat → Nat → Int} {s : TS} {n : Nat} (hn : n < 6) : ∀ (d : Nat) (b : BT), d ≤ 6 → okB hA hB s b → okB hA hB s (mI hA hB lk s n d b) := by
  intro d
  induction d with
  | zero => intro b _ h; exact h
  | succ d ih =>
    intro b hd h
    show okB hA hB s (mI hA hB lk s n d (if fr1 hA hB s n (5 - d) ∧ b.1 < lk n (5 - d) then (lk n (5 - d), (n : Int), ((5 - d : Nat) : Int)) else b))
    by_cases y : fr1 hA hB s n (5 - d) ∧ b.1 < lk n (5 - d)
    · rw [if_pos y]
      exact ih _ (by omega) (Or.inr ⟨n, 5 - d, hn, by omega, rfl, rfl, y.1⟩)
    · rw [if_neg y]
      exact ih _ (by omega) h
theorem mO_ok {hA hB : Nat → Int} {lk : Nat → Nat → Int} {s : TS} : ∀ (d : Nat) (b : BT), d ≤ 6 → okB hA hB s b → okB hA hB s (mO hA hB lk s d b) := by
  intro d
  induction d with
  | zero => intro b _ h; exact h
  | succ d ih =>
    intro b hd h
    exact ih _ (by omega) (mI_ok (by omega) 6 b (by omega) h)
theorem mB_ok {hA hB : Nat → Int} {lk : Nat → Nat → Int} {s : TS} : okB hA hB s (mB hA hB lk s) := mO_ok 6 _ (by omega) (Or.inl ⟨rfl, rfl⟩)
/-- the class's rows of a difference at hand -/
def CT (σ0 σ : Sg) (s : TS) : Prop := WF σ ∧ (∀ c k, ¬ (333 ≤ c ∧ c ≤ 338) → ¬ (c = 343 ∧ k = 1) → ¬ c = 349 → ¬ c = 656 → ¬ c = 657 → ¬ (c = 655 ∧ k = 1) → σ c k = σ0 c k) ∧ σ 655 1 = 6 ∧ ∀ n, n < 6 → σ 656 n = s.1 n ∧ σ 657 n = s.2 n
def hv (σ0 : Sg) (t : Nat) : Nat → Int := fun n => σ0 652 (6 * t + n)
theorem CT_50 {σ0 σ : Sg} {s : TS} {t n : Nat} (C : CT σ0 σ s) (ht : t < 3) (hn : n < 6) : Dd 50 [vA 614, vI t, vI n] σ (rI (if hv σ0 t n = 0 then 0 else 1) σ) := by
  have e := d50_ok (σ := σ) (t := (t : Int)) (n := (n : Int)) (by omega) (by omega)
  rw [show ((t : Int) * 6 + (n : Int)).toNat = 6 * t + n by omega, C.2.1 652 _ (by omega) (by omega) (by omega) (by omega) (by omega) (by omega)] at e
  exact e
/-- arePairable -/
theorem d63 {σ0 σ : Sg} {s : TS} {t u n e : Nat} (C : CT σ0 σ s) (ht : t < 3) (hu : u < 3) (hn : n < 6) (he : e < 6) : Dd 63 [vA 614, vI t, vI n, vI u, vI e] σ (rI (if fr1 (hv σ0 t) (hv σ0 u) s n e then 1 else 0) σ) := by
  have e147 := d147 (σ := σ) (a := 655) (i := (n : Int)) (WF_w C.1 r653.2.2.1)
  rw [at_on (n := 6) (f := s.1) C.2.2.1 (fun i hi => (C.2.2.2 i hi).1) hn] at e147
  have no : ∀ {d5 : Option AV}, ¬ fr1 (hv σ0 t) (hv σ0 u) s n e → C63_36 t n u e d5 σ (rI (if fr1 (hv σ0 t) (hv σ0 u) s n e then 1 else 0) σ) := by
    intro d5 h
    rw [if_neg h]
    refine b63_36 (b63_37 ?_)
    rw [if_pos rfl]
  refine b63 ⟨_, _, e147, ?_⟩
  by_cases y1 : s.1 n = -1
  · rw [if_pos y1, if_pos (by omega)]
    refine ⟨by omega, ?_⟩
    rw [show ((e : Nat) : Int).toNat = e by omega, (C.2.2.2 e he).2]
    by_cases y2 : s.2 e = 0
    · rw [if_pos y2]
      refine b63_37 ?_
      rw [if_neg (show ¬ (1 : Int) = 0 by decide)]
      refine ⟨_, _, CT_50 C ht hn, ?_⟩
      by_cases y3 : hv σ0 t n = 0
      · rw [if_pos y3, if_pos rfl, if_neg (fun h => h.2.2.1 y3)]
      · rw [if_neg y3, if_neg (show ¬ (1 : Int) = 0 by decide)]
        refine ⟨_, _, CT_50 C hu he, ?_⟩
        by_cases y4 : hv σ0 u e = 0
        · rw [if_pos y4, if_pos rfl, if_neg (fun h => h.2.2.2 y4)]
        · rw [if_neg y4, if_neg (show ¬ (1 : Int) = 0 by decide), if_pos ⟨y1, y2, y3, y4⟩]
    · rw [if_neg y2]
      exact no (fun h => y2 h.2.1)
  · rw [if_neg y1]
    exact no (fun h => y1 h.1)
/-- pairFiles -/
theorem d59 {σ0 σ : Sg} {s : TS} {n e : Nat} (C : CT σ0 σ s) (hn : n < 6) (he : e < 6) : ∃ σ', Dd 59 [vA 614, vI n, vI e] σ (rV σ') ∧ CT σ0 σ' (prS s n e) := by
  obtain ⟨W, F, h6, hv⟩ := C
  have e148 := d148 (σ := σ) (a := 655) (i := (n : Int)) (v := (e : Int)) (WF_w W r653.2.2.1)
  rw [st_in (n := 6) h6 hn] at e148
  refine ⟨upS (upS σ 656 n e) 657 e 1, b59 ?_, WF_e (fun a ha => ?_) W, fun c k y1 y2 y3 y4 y5 y6 => ?_, ?_, fun x hx => ⟨?_, ?_⟩⟩
  · rw [if_pos (by omega), if_pos (by omega)]
    refine ⟨_, e148, by omega, ?_⟩
    rw [show ((e : Nat) : Int).toNat = e by omega]
  · have n1 : ¬ a = 657 := by intro q; subst q; exact absurd ha (by decide +kernel)
    rw [up_a n1, up_a (row_nx r653.2.2.1 ha)]
  · rw [up_a y5, up_a y4]
    exact F c k y1 y2 y3 y4 y5 y6
  · rw [up_a (by decide), up_a (by decide)]; exact h6
  · rw [up_a (by decide)]
    show _ = if x = n then (e : Int) else s.1 x
    by_cases y : x = n
    · rw [if_pos y, y, up_s]
    · rw [if_neg y, up_k y]; exact (hv x hx).1
  · show _ = if x = e then 1 else s.2 x
    by_cases y : x = e
    · rw [if_pos y, y, up_s]
    · rw [if_neg y, up_k y, up_a (by decide)]; exact (hv x hx).2
theorem CT_cg {σ0 σ : Sg} {s s' : TS} (h : ∀ n, n < 6 → s'.1 n = s.1 n ∧ s'.2 n = s.2 n) (C : CT σ0 σ s) : CT σ0 σ s' := ⟨C.1, C.2.1, C.2.2.1, fun n hn => ⟨by rw [(h n hn).1]; exact (C.2.2.2 n hn).1, by rw [(h n hn).2]; exact (C.2.2.2 n hn).2⟩⟩
/-- pairNames -/
theorem d60 {σ0 σ : Sg} {t u : Nat} (ht : t < 3) (hu : u < 3) (C : CT σ0 σ (fun _ => -1, fun _ => 0)) : ∃ σ', Dd 60 [vA 614, vI t, vI u] σ (rV σ') ∧ CT σ0 σ' (ts0 (hv σ0 t) (hv σ0 u)) := by
  have L : ∀ (d k : Nat) (σ : Sg), k + d = 6 → CT σ0 σ (fun n => if n < k then (ts0 (hv σ0 t) (hv σ0 u)).1 n else -1, fun n => if n < k then (ts0 (hv σ0 t) (hv σ0 u)).2 n else 0) → ∃ σ', C60_2 t u k σ (rV σ') ∧ CT σ0 σ' (ts0 (hv σ0 t) (hv σ0 u)) := by
    intro d
    induction d with
    | zero =>
      intro k σ hk C
      refine ⟨σ, b60_2 ?_, CT_cg (fun n hn => ⟨?_, ?_⟩) C⟩
      · rw [if_neg (by omega)]
      · dsimp only; rw [if_pos (by omega)]
      · dsimp only; rw [if_pos (by omega)]
    | succ d ih =>
      intro k σ hk C
      have to : ∀ {σ1 : Sg} {o : Rs}, C60_2 t u ((k + 1 : Nat) : Int) σ1 o → C60_32 t u k σ1 o := by
        intro σ1 o hh
        refine b60_32 ⟨by omega, ?_⟩
        rw [show (k : Int) + 1 = ((k + 1 : Nat) : Int) by omega]
        exact hh
      by_cases y : ¬ hv σ0 t k = 0 ∧ ¬ hv σ0 u k = 0
      · obtain ⟨σ1, a1, a2⟩ := d59 (n := k) (e := k) C (by omega) (by omega)
        obtain ⟨σ', c1, c2⟩ := ih (k + 1) σ1 (by omega) (CT_cg (fun n hn => by
          unfold prS ts0
          dsimp only
          by_cases q : n = k
          · subst q
            rw [if_pos (show n < n + 1 by omega), if_pos (show n < n + 1 by omega), if_pos rfl, if_pos rfl, if_pos y, if_pos y]
            exact ⟨rfl, rfl⟩
          · rw [if_neg q, if_neg q]
            by_cases q2 : n < k
            · rw [if_pos q2, if_pos q2, if_pos (show n < k + 1 by omega), if_pos (show n < k + 1 by omega)]
              exact ⟨rfl, rfl⟩
            · rw [if_neg q2, if_neg q2, if_neg (show ¬ n < k + 1 by omega), if_neg (show ¬ n < k + 1 by omega)]
              exact ⟨rfl, rfl⟩) a2)
        refine ⟨σ', b60_2 ?_, c2⟩
        rw [if_pos (by omega)]
        refine ⟨_, _, CT_50 C ht (by omega), ?_⟩
        rw [if_neg y.1, if_neg (show ¬ (1 : Int) = 0 by decide)]
        refine ⟨_, _, CT_50 C hu (by omega), ?_⟩
        rw [if_neg y.2, if_neg (show ¬ (1 : Int) = 0 by decide)]
        exact ⟨_, a1, to c1⟩
      · obtain ⟨σ', c1, c2⟩ := ih (k + 1) σ (by omega) (CT_cg (fun n hn => by
          unfold ts0
          dsimp only
          by_cases q : n = k
          · subst q
            rw [if_pos (show n < n + 1 by omega), if_pos (show n < n + 1 by omega), if_neg y, if_neg y, if_neg (Nat.lt_irrefl n), if_neg (Nat.lt_irrefl n)]
            exact ⟨rfl, rfl⟩
          · by_cases q2 : n < k
            · rw [if_pos q2, if_pos q2, if_pos (show n < k + 1 by omega), if_pos (show n < k + 1 by omega)]
              exact ⟨rfl, rfl⟩
            · rw [if_neg q2, if_neg q2, if_neg (show ¬ n < k + 1 by omega), if_neg (show ¬ n < k + 1 by omega)]
              exact ⟨rfl, rfl⟩) C)
        refine ⟨σ', b60_2 ?_, c2⟩
        rw [if_pos (by omega)]
        refine ⟨_, _, CT_50 C ht (by omega), ?_⟩
        by_cases y1 : hv σ0 t k = 0
        · rw [if_pos y1, if_pos rfl]
          exact to c1
        · rw [if_neg y1, if_neg (show ¬ (1 : Int) = 0 by decide)]
          refine ⟨_, _, CT_50 C hu (by omega), ?_⟩
          rw [if_pos (show hv σ0 u k = 0 by
            by_cases q : hv σ0 u k = 0
            · exact q
            · exact absurd ⟨y1, q⟩ y), if_pos rfl]
          exact to c1
  obtain ⟨σ', c1, c2⟩ := L 6 0 σ (by omega) (CT_cg (fun n hn => by
    dsimp only
    rw [if_neg (Nat.not_lt_zero n), if_neg (Nat.not_lt_zero n)]
    exact ⟨rfl, rfl⟩) C)
  exact ⟨σ', b60 c1, c2⟩
/-- a file's row -/
theorem d145f {σ : Sg} {t n : Nat} (ht : t < 3) (hn : n < 6) : Dd 145 [vA 615, vI ((t : Int) * 6 + (n : Int))] σ (rA (616 + 2 * (6 * t + n)) σ) := by
  have h := el_615 (i := ((6 * t + n : Nat) : Int)) (by omega)
  rw [show ((6 * t + n : Nat) : Int).toNat = 6 * t + n by omega] at h
  refine d145_ok (n := 18) (by decide +kernel) (by decide) (by omega) ?_ h.2
  rw [show ((t : Int) * 6 + (n : Int)).toNat = 6 * t + n by omega]
  exact h.1
theorem frow {t n : Nat} (ht : t < 3) (hn : n < 6) : isRow (616 + 2 * (6 * t + n)) = true ∧ (cap (616 + 2 * (6 * t + n)) : Int) = 16 := by
  have h := el_615 (i := ((6 * t + n : Nat) : Int)) (by omega)
  have h2 := cp_615 (i := ((6 * t + n : Nat) : Int)) (by omega)
  rw [show ((6 * t + n : Nat) : Int).toNat = 6 * t + n by omega] at h h2
  exact ⟨h.2, h2⟩
theorem d64 {σ0 σ : Sg} {s : TS} {t u n e : Nat} {sm : Nat → Nat → Bool} (C : CT σ0 σ s) (ht : t < 3) (hu : u < 3) (hn : n < 6) (he : e < 6) (hsm : sm n e = true ↔ smP σ0 (616 + 2 * (6 * t + n)) (616 + 2 * (6 * u + e))) : Dd 64 [vA 614, vI t, vI n, vI u, vI e] σ (rI (if sm n e = true then 1 else 0) σ) := by
  have r1 := (frow ht hn).1
  have r2 := (frow hu he).1
  have fs : ∀ {f : Nat}, f < 18 → σ (616 + 2 * f) = σ0 (616 + 2 * f) ∧ σ (616 + 2 * f + 1) = σ0 (616 + 2 * f + 1) := fun hf => ⟨funext fun x => C.2.1 _ _ (by omega) (by omega) (by omega) (by omega) (by omega) (by omega), funext fun x => C.2.1 _ _ (by omega) (by omega) (by omega) (by omega) (by omega) (by omega)⟩
  have g1 := fs (f := 6 * t + n) (by omega)
  have g2 := fs (f := 6 * u + e) (by omega)
  have hs : smP σ (616 + 2 * (6 * t + n)) (616 + 2 * (6 * u + e)) ↔ smP σ0 (616 + 2 * (6 * t + n)) (616 + 2 * (6 * u + e)) := by
    unfold smP
    rw [g1.1, g1.2, g2.1, g2.2]
  refine b64 ⟨_, _, d51_ok (by omega) (by omega), _, _, d145f ht hn, _, _, d51_ok (by omega) (by omega), _, _, d145f hu he, fun h => (by cases h), fun a h => ?_⟩
  cases h
  refine ⟨r1, fun h => (by cases h), fun a h => ?_⟩
  cases h
  refine ⟨r2, ?_⟩
  by_cases y : sm n e = true
  · rw [if_pos y]
    exact ⟨_, _, d156_t (WF_w C.1 r1) (WF_w C.1 r2) (hs.mpr (hsm.mp y)), by rw [if_neg (show ¬ (1 : Int) = 0 by decide)]⟩
  · rw [if_neg y]
    exact ⟨_, _, d156_f (WF_w C.1 r1) (WF_w C.1 r2) (fun h => y (hsm.mpr (hs.mp h))), by rw [if_pos rfl]⟩
/-- how alike two files are -/
def lkF (σ0 : Sg) (f f' : Nat) : Int := if σ0 (616 + 2 * f) 1 + σ0 (616 + 2 * f') 1 = 0 then 100 else Int.tdiv (200 * lt (σ0 (616 + 2 * f + 1)) (σ0 (616 + 2 * f' + 1)) (σ0 (616 + 2 * f) 1).toNat (σ0 (616 + 2 * f') 1).toNat (σ0 (616 + 2 * f) 1).toNat (σ0 (616 + 2 * f') 1).toNat) (σ0 (616 + 2 * f) 1 + σ0 (616 + 2 * f') 1)
theorem d65 {σ0 σ : Sg} {s : TS} {t u n e : Nat} (C : CT σ0 σ s) (ht : t < 3) (hu : u < 3) (hn : n < 6) (he : e < 6) : ∃ σ', Dd 65 [vA 614, vI t, vI n, vI u, vI e] σ (rI (lkF σ0 (6 * t + n) (6 * u + e)) σ') ∧ CT σ0 σ' s := by
  obtain ⟨r1, p1⟩ := frow ht hn
  obtain ⟨r2, p2⟩ := frow hu he
  have fs : ∀ {f : Nat}, f < 18 → σ (616 + 2 * f) = σ0 (616 + 2 * f) ∧ σ (616 + 2 * f + 1) = σ0 (616 + 2 * f + 1) := fun hf => ⟨funext fun x => C.2.1 _ _ (by omega) (by omega) (by omega) (by omega) (by omega) (by omega), funext fun x => C.2.1 _ _ (by omega) (by omega) (by omega) (by omega) (by omega) (by omega)⟩
  have g1 := fs (f := 6 * t + n) (by omega)
  have g2 := fs (f := 6 * u + e) (by omega)
  have w1 := C.1 _ r1
  have w2 := C.1 _ r2
  obtain ⟨n1, hn1⟩ := Int.eq_ofNat_of_zero_le w1.1
  obtain ⟨n2, hn2⟩ := Int.eq_ofNat_of_zero_le w2.1
  have e1 := d146 (σ := σ) r1
  have e2 := d146 (σ := σ) r2
  rw [hn1] at e1
  rw [hn2] at e2
  have z1 : σ0 (616 + 2 * (6 * t + n)) 1 = (n1 : Nat) := by rw [← g1.1]; exact hn1
  have z2 : σ0 (616 + 2 * (6 * u + e)) 1 = (n2 : Nat) := by rw [← g2.1]; exact hn2
  have pre : ∀ {o : Rs}, (-2147483648 ≤ ((n1 : Nat) : Int) + (n2 : Nat) ∧ ((n1 : Nat) : Int) + (n2 : Nat) ≤ 2147483647 → (if ((n1 : Nat) : Int) + (n2 : Nat) = 0 then o = rI 100 σ else (∃ (v25 : Int) (s24 : Sg), Dd 16 [vA 332, vA (616 + 2 * (6 * t + n)), vA (616 + 2 * (6 * u + e))] σ (rI v25 s24) ∧ (-2147483648 ≤ (200 * v25) ∧ (200 * v25) ≤ 2147483647) ∧ (0 < (((n1 : Nat) : Int) + (n2 : Nat))) ∧ o = (rI (Int.tdiv (200 * v25) (((n1 : Nat) : Int) + (n2 : Nat))) s24)))) → Dd 65 [vA 614, vI t, vI n, vI u, vI e] σ o := by
    intro o hh
    refine b65 ⟨_, _, d51_ok (by omega) (by omega), _, _, d145f ht hn, _, _, d51_ok (by omega) (by omega), _, _, d145f hu he, fun h => (by cases h), fun a h => ?_⟩
    cases h
    refine ⟨r1, fun h => (by cases h), fun a h => ?_⟩
    cases h
    exact ⟨r2, _, _, e1, _, _, e2, by omega, hh (by omega)⟩
  by_cases y : ((n1 : Nat) : Int) + (n2 : Nat) = 0
  · refine ⟨σ, pre (fun _ => ?_), C⟩
    rw [if_pos y]
    unfold lkF
    rw [z1, z2, if_pos y]
  · obtain ⟨s', a1, a2, a3⟩ := d16 C.1 r1 r2 hn1 hn2 (by omega) (by omega) (by omega) (by omega)
    have bL := lt_b (f := σ (616 + 2 * (6 * t + n) + 1)) (g := σ (616 + 2 * (6 * u + e) + 1)) (ae := n1) (be := n2) n1 n2
    refine ⟨s', pre (fun _ => ?_), a2, fun c k y1 y2 y3 y4 y5 y6 => by rw [a3 c k y1 y2 y3]; exact C.2.1 c k y1 y2 y3 y4 y5 y6, by rw [a3 _ _ (by decide) (by decide) (by decide)]; exact C.2.2.1, fun x hx => by rw [a3 _ _ (by decide) (by omega) (by decide), a3 _ _ (by decide) (by omega) (by decide)]; exact C.2.2.2 x hx⟩
    rw [if_neg y]
    refine ⟨_, _, a1, by omega, by omega, ?_⟩
    unfold lkF
    rw [z1, z2, if_neg y, ← g1.2, ← g2.2, show ((n1 : Nat) : Int).toNat = n1 by omega, show ((n2 : Nat) : Int).toNat = n2 by omega]
/-- pairTexts -/
theorem l61b {σ0 : Sg} {t u n : Nat} {sm : Nat → Nat → Bool} (ht : t < 3) (hu : u < 3) (hn : n < 6) (hsm : ∀ n e, n < 6 → e < 6 → (sm n e = true ↔ smP σ0 (616 + 2 * (6 * t + n)) (616 + 2 * (6 * u + e)))) : ∀ (d : Nat) (σ : Sg) (s : TS), d ≤ 6 → CT σ0 σ s → ∃ σ', (∀ {o : Rs}, (∀ d4, C61_2 t u ((n + 1 : Nat) : Int) d4 σ' o) → C61_11 t u n ((6 - d : Nat) : Int) σ o) ∧ CT σ0 σ' (pI (hv σ0 t) (hv σ0 u) sm n d s) := by
  intro d
  induction d with
  | zero =>
    intro σ s hd C
    refine ⟨σ, fun {o} hh => b61_11 ?_, C⟩
    rw [if_neg (by omega), show (n : Int) + 1 = ((n + 1 : Nat) : Int) by omega]
    exact ⟨by omega, hh _⟩
  | succ d ih =>
    intro σ s hd C
    rw [show 6 - (d + 1) = 5 - d by omega]
    have q63 := d63 (n := n) (e := 5 - d) C ht hu hn (by omega)
    have to : ∀ {σ1 : Sg} {o : Rs}, C61_11 t u n ((6 - d : Nat) : Int) σ1 o → C61_49 t u n ((5 - d : Nat) : Int) σ1 o := by
      intro σ1 o hh
      refine b61_49 ⟨by omega, ?_⟩
      rw [show ((5 - d : Nat) : Int) + 1 = ((6 - d : Nat) : Int) by omega]
      exact hh
    by_cases y : fr1 (hv σ0 t) (hv σ0 u) s n (5 - d)
    · rw [if_pos y] at q63
      have q64 := d64 (n := n) (e := 5 - d) C ht hu hn (by omega) (hsm n (5 - d) hn (by omega))
      by_cases y2 : sm n (5 - d) = true
      · obtain ⟨σ1, a1, a2⟩ := d59 (n := n) (e := 5 - d) C hn (by omega)
        obtain ⟨σ', c1, c2⟩ := ih σ1 _ (by omega) a2
        rw [if_pos y2] at q64
        refine ⟨σ', fun {o} hh => b61_11 ?_, ?_⟩
        · rw [if_pos (by omega)]
          refine ⟨_, _, q63, ?_⟩
          rw [if_neg (show ¬ (1 : Int) = 0 by decide)]
          refine ⟨_, _, q64, ?_⟩
          rw [if_neg (show ¬ (1 : Int) = 0 by decide)]
          exact ⟨_, a1, to (c1 hh)⟩
        · show CT σ0 σ' (pI (hv σ0 t) (hv σ0 u) sm n d (if fr1 (hv σ0 t) (hv σ0 u) s n (5 - d) ∧ sm n (5 - d) = true then prS s n (5 - d) else s))
          rw [if_pos ⟨y, y2⟩]
          exact c2
      · obtain ⟨σ', c1, c2⟩ := ih σ s (by omega) C
        rw [if_neg y2] at q64
        refine ⟨σ', fun {o} hh => b61_11 ?_, ?_⟩
        · rw [if_pos (by omega)]
          refine ⟨_, _, q63, ?_⟩
          rw [if_neg (show ¬ (1 : Int) = 0 by decide)]
          refine ⟨_, _, q64, ?_⟩
          rw [if_pos rfl]
          exact to (c1 hh)
        · show CT σ0 σ' (pI (hv σ0 t) (hv σ0 u) sm n d (if fr1 (hv σ0 t) (hv σ0 u) s n (5 - d) ∧ sm n (5 - d) = true then prS s n (5 - d) else s))
          rw [if_neg (fun h => y2 h.2)]
          exact c2
    · rw [if_neg y] at q63
      obtain ⟨σ', c1, c2⟩ := ih σ s (by omega) C
      refine ⟨σ', fun {o} hh => b61_11 ?_, ?_⟩
      · rw [if_pos (by omega)]
        refine ⟨_, _, q63, ?_⟩
        rw [if_pos rfl]
        exact to (c1 hh)
      · show CT σ0 σ' (pI (hv σ0 t) (hv σ0 u) sm n d (if fr1 (hv σ0 t) (hv σ0 u) s n (5 - d) ∧ sm n (5 - d) = true then prS s n (5 - d) else s))
        rw [if_neg (fun h => y h.1)]
        exact c2
theorem d61 {σ0 σ : Sg} {s : TS} {t u : Nat} {sm : Nat → Nat → Bool} (ht : t < 3) (hu : u < 3) (hsm : ∀ n e, n < 6 → e < 6 → (sm n e = true ↔ smP σ0 (616 + 2 * (6 * t + n)) (616 + 2 * (6 * u + e)))) (C : CT σ0 σ s) : ∃ σ', Dd 61 [vA 614, vI t, vI u] σ (rV σ') ∧ CT σ0 σ' (pO (hv σ0 t) (hv σ0 u) sm 6 s) := by
  have L : ∀ (d : Nat) (σ : Sg) (s : TS), d ≤ 6 → CT σ0 σ s → ∃ σ', (∀ d4, C61_2 t u ((6 - d : Nat) : Int) d4 σ (rV σ')) ∧ CT σ0 σ' (pO (hv σ0 t) (hv σ0 u) sm d s) := by
    intro d
    induction d with
    | zero =>
      intro σ s hd C
      refine ⟨σ, fun d4 => b61_2 ?_, C⟩
      rw [if_neg (by omega)]
    | succ d ih =>
      intro σ s hd C
      obtain ⟨σ1, a1, a2⟩ := l61b (n := 5 - d) ht hu (by omega) hsm 6 σ s (by omega) C
      obtain ⟨σ', c1, c2⟩ := ih σ1 _ (by omega) a2
      refine ⟨σ', fun d4 => b61_2 ?_, c2⟩
      rw [if_pos (by omega), show 6 - (d + 1) = 5 - d by omega]
      rw [show 5 - d + 1 = 6 - d by omega] at a1
      exact a1 c1
  obtain ⟨σ', c1, c2⟩ := L 6 σ s (by omega) C
  exact ⟨σ', b61 (c1 _), c2⟩
/-- pairMostAlike -/
theorem l62b {σ0 : Sg} {s : TS} {t u n : Nat} (ht : t < 3) (hu : u < 3) (hn : n < 6) : ∀ (d : Nat) (σ : Sg) (b : BT), d ≤ 6 → CT σ0 σ s → ∃ σ' b', b' = mI (hv σ0 t) (hv σ0 u) (fun n e => lkF σ0 (6 * t + n) (6 * u + e)) s n d b ∧ (∀ {o : Rs}, (∀ d7, C62_12 t u b'.2.1 b'.2.2 b'.1 ((n + 1 : Nat) : Int) d7 σ' o) → C62_22 t u b.2.1 b.2.2 b.1 n ((6 - d : Nat) : Int) σ o) ∧ CT σ0 σ' s := by
  intro d
  induction d with
  | zero =>
    intro σ b hd C
    refine ⟨σ, b, rfl, fun {o} hh => b62_22 ?_, C⟩
    rw [if_neg (by omega), show (n : Int) + 1 = ((n + 1 : Nat) : Int) by omega]
    exact ⟨by omega, hh _⟩
  | succ d ih =>
    intro σ b hd C
    rw [show 6 - (d + 1) = 5 - d by omega]
    have q63 := d63 (n := n) (e := 5 - d) C ht hu hn (by omega)
    have to : ∀ {σ1 : Sg} {x3 x4 x5 : Int} {o : Rs}, C62_22 t u x3 x4 x5 n ((6 - d : Nat) : Int) σ1 o → C62_76 t u x3 x4 x5 n ((5 - d : Nat) : Int) σ1 o := by
      intro σ1 x3 x4 x5 o hh
      refine b62_76 ⟨by omega, ?_⟩
      rw [show ((5 - d : Nat) : Int) + 1 = ((6 - d : Nat) : Int) by omega]
      exact hh
    by_cases y : fr1 (hv σ0 t) (hv σ0 u) s n (5 - d)
    · rw [if_pos y] at q63
      obtain ⟨σ1, a1, a2⟩ := d65 (n := n) (e := 5 - d) C ht hu hn (by omega)
      by_cases y2 : b.1 < lkF σ0 (6 * t + n) (6 * u + (5 - d))
      · obtain ⟨σ2, a3, a4⟩ := d65 (n := n) (e := 5 - d) a2 ht hu hn (by omega)
        obtain ⟨σ', b', c0, c1, c2⟩ := ih σ2 (lkF σ0 (6 * t + n) (6 * u + (5 - d)), (n : Int), ((5 - d : Nat) : Int)) (by omega) a4
        refine ⟨σ', b', ?_, fun {o} hh => b62_22 ?_, c2⟩
        · rw [c0]
          show _ = mI _ _ _ s n d (if fr1 (hv σ0 t) (hv σ0 u) s n (5 - d) ∧ b.1 < lkF σ0 (6 * t + n) (6 * u + (5 - d)) then _ else b)
          rw [if_pos ⟨y, y2⟩]
        · rw [if_pos (by omega)]
          refine ⟨_, _, q63, ?_⟩
          rw [if_neg (show ¬ (1 : Int) = 0 by decide)]
          refine ⟨_, _, a1, ?_⟩
          rw [if_pos y2]
          exact ⟨_, _, a3, to (c1 hh)⟩
      · obtain ⟨σ', b', c0, c1, c2⟩ := ih σ1 b (by omega) a2
        refine ⟨σ', b', ?_, fun {o} hh => b62_22 ?_, c2⟩
        · rw [c0]
          show _ = mI _ _ _ s n d (if fr1 (hv σ0 t) (hv σ0 u) s n (5 - d) ∧ b.1 < lkF σ0 (6 * t + n) (6 * u + (5 - d)) then _ else b)
          rw [if_neg (fun h => y2 h.2)]
        · rw [if_pos (by omega)]
          refine ⟨_, _, q63, ?_⟩
          rw [if_neg (show ¬ (1 : Int) = 0 by decide)]
          refine ⟨_, _, a1, ?_⟩
          rw [if_neg y2]
          exact to (c1 hh)
    · rw [if_neg y] at q63
      obtain ⟨σ', b', c0, c1, c2⟩ := ih σ b (by omega) C
      refine ⟨σ', b', ?_, fun {o} hh => b62_22 ?_, c2⟩
      · rw [c0]
        show _ = mI _ _ _ s n d (if fr1 (hv σ0 t) (hv σ0 u) s n (5 - d) ∧ b.1 < lkF σ0 (6 * t + n) (6 * u + (5 - d)) then _ else b)
        rw [if_neg (fun h => y h.1)]
      · rw [if_pos (by omega)]
        refine ⟨_, _, q63, ?_⟩
        rw [if_pos rfl]
        exact to (c1 hh)
theorem d62 {σ0 σ : Sg} {s : TS} {t u : Nat} (ht : t < 3) (hu : u < 3) (C : CT σ0 σ s) : ∃ σ', Dd 62 [vA 614, vI t, vI u] σ (rV σ') ∧ CT σ0 σ' (sA (hv σ0 t) (hv σ0 u) (fun n e => lkF σ0 (6 * t + n) (6 * u + e)) s) := by
  have L : ∀ (d : Nat) (σ : Sg) (b : BT), d ≤ 6 → CT σ0 σ s → ∃ σ' b', b' = mO (hv σ0 t) (hv σ0 u) (fun n e => lkF σ0 (6 * t + n) (6 * u + e)) s d b ∧ (∀ {o : Rs}, (∃ s1, Dd 59 [vA 614, vI b'.2.1, vI b'.2.2] σ' (rV s1) ∧ o = rV s1) → ∀ d7, C62_12 t u b.2.1 b.2.2 b.1 ((6 - d : Nat) : Int) d7 σ o) ∧ CT σ0 σ' s := by
    intro d
    induction d with
    | zero =>
      intro σ b hd C
      refine ⟨σ, b, rfl, fun {o} hh d7 => b62_12 ?_, C⟩
      rw [if_neg (by omega)]
      exact hh
    | succ d ih =>
      intro σ b hd C
      obtain ⟨σ1, b1, c0, c1, c2⟩ := l62b (n := 5 - d) ht hu (by omega) 6 σ b (by omega) C
      obtain ⟨σ', b', e0, e1, e2⟩ := ih σ1 b1 (by omega) c2
      refine ⟨σ', b', by rw [e0, c0]; rfl, fun {o} hh d7 => b62_12 ?_, e2⟩
      rw [if_pos (by omega), show 6 - (d + 1) = 5 - d by omega]
      rw [show 5 - d + 1 = 6 - d by omega] at c1
      exact c1 (e1 hh)
  obtain ⟨σ1, b, e0, e1, e2⟩ := L 6 σ (59, -1, -1) (by omega) C
  have ok := mB_ok (hA := hv σ0 t) (hB := hv σ0 u) (lk := fun n e => lkF σ0 (6 * t + n) (6 * u + e)) (s := s)
  have eb : mB (hv σ0 t) (hv σ0 u) (fun n e => lkF σ0 (6 * t + n) (6 * u + e)) s = b := e0.symm
  unfold sA
  rw [eb] at ok ⊢
  rcases ok with ⟨k1, k2⟩ | ⟨n, e, k1, k2, k3, k4, k5⟩
  · rw [if_pos k1]
    refine ⟨σ1, b62 (e1 ⟨σ1, b59 ?_, rfl⟩ _), e2⟩
    rw [k2, if_neg (by decide)]
  · rw [if_neg (by omega)]
    obtain ⟨σ2, a1, a2⟩ := d59 (n := n) (e := e) e2 k1 k2
    rw [k3, k4] at e1
    refine ⟨σ2, b62 (e1 ⟨σ2, a1, rfl⟩ _), ?_⟩
    rw [k3, k4, show ((n : Nat) : Int).toNat = n by omega, show ((e : Nat) : Int).toNat = e by omega]
    exact a2
end
-- DRAFT 95.diff2.lean
/-! difference: the reference's side. -/
noncomputable section
/-- what is common is paired, and the goals are names -/
def INV (hA hB : Nat → Int) (s : TS) : Prop := ∀ n, n < 6 → (¬ hA n = 0 → ¬ hB n = 0 → ¬ s.1 n = -1 ∧ ¬ s.2 n = 0) ∧ -1 ≤ s.1 n ∧ s.1 n ≤ 5
theorem INV_0 {hA hB : Nat → Int} : INV hA hB (ts0 hA hB) := by
  intro n hn
  unfold ts0
  dsimp only
  refine ⟨fun h1 h2 => ?_, ?_⟩
  · rw [if_pos ⟨h1, h2⟩, if_pos ⟨h1, h2⟩]
    omega
  · split <;> omega
theorem INV_p {hA hB : Nat → Int} {s : TS} {n e : Nat} (I : INV hA hB s) (he : e < 6) : INV hA hB (prS s n e) := by
  intro x hx
  obtain ⟨i1, i2, i3⟩ := I x hx
  unfold prS
  dsimp only
  refine ⟨fun h1 h2 => ⟨?_, ?_⟩, ?_⟩
  · split
    · omega
    · exact (i1 h1 h2).1
  · split
    · omega
    · exact (i1 h1 h2).2
  · split <;> omega
theorem INV_pI {hA hB : Nat → Int} {sm : Nat → Nat → Bool} {n : Nat} : ∀ (d : Nat) (s : TS), d ≤ 6 → INV hA hB s → INV hA hB (pI hA hB sm n d s) := by
  intro d
  induction d with
  | zero => intro s _ I; exact I
  | succ d ih =>
    intro s hd I
    show INV hA hB (pI hA hB sm n d (if fr1 hA hB s n (5 - d) ∧ sm n (5 - d) = true then prS s n (5 - d) else s))
    refine ih _ (by omega) ?_
    split
    · exact INV_p I (by omega)
    · exact I
theorem INV_pO {hA hB : Nat → Int} {sm : Nat → Nat → Bool} : ∀ (d : Nat) (s : TS), INV hA hB s → INV hA hB (pO hA hB sm d s) := by
  intro d
  induction d with
  | zero => intro s I; exact I
  | succ d ih =>
    intro s I
    exact ih _ (INV_pI 6 s (by omega) I)
theorem INV_sA {hA hB : Nat → Int} {lk : Nat → Nat → Int} {s : TS} (I : INV hA hB s) : INV hA hB (sA hA hB lk s) := by
  unfold sA
  have ok := mB_ok (hA := hA) (hB := hB) (lk := lk) (s := s)
  rcases ok with ⟨k1, k2⟩ | ⟨n, e, k1, k2, k3, k4, k5⟩
  · rw [if_pos k1]; exact I
  · rw [if_neg (by omega), k4]
    exact INV_p I (by omega)
theorem INV_sN {hA hB : Nat → Int} {lk : Nat → Nat → Int} : ∀ (d : Nat) (s : TS), INV hA hB s → INV hA hB (sN hA hB lk d s) := by
  intro d
  induction d with
  | zero => intro s I; exact I
  | succ d ih =>
    intro s I
    exact ih _ (INV_sA I)
/-- the numbers of goals that are free -/
def frc (s : TS) : Nat := (if s.2 0 = 0 then 1 else 0) + (if s.2 1 = 0 then 1 else 0) + (if s.2 2 = 0 then 1 else 0) + (if s.2 3 = 0 then 1 else 0) + (if s.2 4 = 0 then 1 else 0) + (if s.2 5 = 0 then 1 else 0)
theorem frc_6 {s : TS} : frc s ≤ 6 := by
  unfold frc
  have h : ∀ c : Prop, [Decidable c] → (if c then 1 else 0) ≤ (1 : Nat) := by
    intro c hc
    split <;> omega
  have h0 := h (s.2 0 = 0)
  have h1 := h (s.2 1 = 0)
  have h2 := h (s.2 2 = 0)
  have h3 := h (s.2 3 = 0)
  have h4 := h (s.2 4 = 0)
  have h5 := h (s.2 5 = 0)
  omega
theorem frc_p {s : TS} {n e : Nat} (he : e < 6) (h : s.2 e = 0) : frc (prS s n e) + 1 = frc s := by
  have h6 : e = 0 ∨ e = 1 ∨ e = 2 ∨ e = 3 ∨ e = 4 ∨ e = 5 := by omega
  unfold frc prS
  dsimp only
  rcases h6 with q | q | q | q | q | q <;> subst q <;> simp [h] <;> omega
theorem sN_fix {hA hB : Nat → Int} {lk : Nat → Nat → Int} {s : TS} (h : sA hA hB lk s = s) : ∀ d, sN hA hB lk d s = s := by
  intro d
  induction d with
  | zero => rfl
  | succ d ih =>
    show sN hA hB lk d (sA hA hB lk s) = s
    rw [h]
    exact ih
/-- the reference's rows of a difference at hand -/
def MT (hA hB : Nat → Int) (σ0 σ : Sg) (D : Nat) (s : TS) : Prop := (∀ c k, ¬ (691 ≤ c ∧ c ≤ 694) → ¬ c = 721 → ¬ (c = 720 ∧ 6 * D ≤ k ∧ k < 6 * D + 6) → ¬ (c = 682 ∧ (k = 12 ∨ k = 13)) → σ c k = σ0 c k) ∧ ∀ n, n < 6 → σ 720 (6 * D + n) = s.1 n ∧ ((hA n = 0 ∨ hB n = 0) → σ 721 n = s.2 n)
/-- the files of both sides -/
def FL (σc σ0 : Sg) : Prop := ∀ f, f < 18 → σ0 717 f = σc 652 f ∧ (¬ σc 652 f = 0 → ∃ n : Nat, n ≤ 16 ∧ σc (616 + 2 * f) 1 = (n : Nat) ∧ σ0 718 f = (n : Nat) ∧ ∀ i, i < n → σ0 719 (16 * f + i) = σc (616 + 2 * f + 1) i)
theorem d371 {σc σ0 σ : Sg} {hA hB : Nat → Int} {D t u n : Nat} {s : TS} (F : FL σc σ0) (M : MT hA hB σ0 σ D s) (ht : t < 3) (hu : u < 3) (hn : n < 6) : Dd 371 [vA 682, vI t, vI u, vI n] σ (rI (if hv σc t n = 0 then 0 else (if hv σc u n = 0 then 1 else 0)) σ) := by
  have g1 : σ 717 (6 * t + n) = hv σc t n := by
    rw [M.1 _ _ (by decide) (by decide) (by omega) (by omega)]
    exact (F _ (by omega)).1
  have g2 : σ 717 (6 * u + n) = hv σc u n := by
    rw [M.1 _ _ (by decide) (by decide) (by omega) (by omega)]
    exact (F _ (by omega)).1
  refine b371 ⟨by omega, by omega, by omega, fun _ => by omega, fun _ => by omega, fun _ => by omega, ?_⟩
  rw [show ((6 * (t : Int)) + (n : Int)).toNat = 6 * t + n by omega, show ((6 * (u : Int)) + (n : Int)).toNat = 6 * u + n by omega, g1, g2]
/-- areSameFiles -/
theorem l369 {σ : Sg} {f f' nf : Nat} {O N : Nat → Int} (hf : f < 18) (hf' : f' < 18) (h16 : nf ≤ 16) (z1 : σ 718 f = (nf : Nat)) (hO : ∀ i, i < nf → σ 719 (16 * f + i) = O i) (hN : ∀ i, i < nf → σ 719 (16 * f' + i) = N i) : ∀ (d i : Nat), i + d = nf → ((∀ k, i ≤ k → k < nf → O k = N k) → C369_24 f f' 1 i σ (rI 1 σ)) ∧ (¬ (∀ k, i ≤ k → k < nf → O k = N k) → C369_24 f f' 1 i σ (rI 0 σ)) := by
  intro d
  induction d with
  | zero =>
    intro i hi
    refine ⟨fun _ => b369_24 ⟨by omega, ?_⟩, fun h => absurd (fun k h1 h2 => by omega) h⟩
    rw [show ((f : Nat) : Int).toNat = f by omega, z1, if_neg (by omega)]
    exact ⟨Or.inr rfl, rfl⟩
  | succ d ih =>
    intro i hi
    obtain ⟨j1, j2⟩ := ih (i + 1) (by omega)
    have e1 : ((16 * (f : Int)) + (i : Int)).toNat = 16 * f + i := by omega
    have e2 : ((16 * (f' : Int)) + (i : Int)).toNat = 16 * f' + i := by omega
    have go : ∀ {o : Rs} (y : Int), y = (if O i = N i then 1 else 0) → C369_24 f f' y ((i + 1 : Nat) : Int) σ o → C369_24 f f' 1 i σ o := by
      intro o y hy hh
      refine b369_24 ⟨by omega, ?_⟩
      rw [show ((f : Nat) : Int).toNat = f by omega, z1, if_pos (by omega), if_neg (by decide), e1, e2, hO i (by omega), hN i (by omega), ← hy]
      refine ⟨by omega, by omega, by omega, by omega, by omega, by omega, b369_71 ⟨by omega, ?_⟩⟩
      rw [show (i : Int) + 1 = ((i + 1 : Nat) : Int) by omega]
      exact hh
    have z0 : C369_24 f f' 0 ((i + 1 : Nat) : Int) σ (rI 0 σ) := by
      refine b369_24 ⟨by omega, ?_⟩
      by_cases y : ((i + 1 : Nat) : Int) < σ 718 ((f : Int)).toNat
      · rw [if_pos y, if_pos rfl]; exact ⟨Or.inl rfl, rfl⟩
      · rw [if_neg y]; exact ⟨Or.inl rfl, rfl⟩
    by_cases hx : O i = N i
    · have hx1 : (1 : Int) = (if O i = N i then 1 else 0) := by rw [if_pos hx]
      refine ⟨fun h => go 1 hx1 (j1 (fun k h1 h2 => h k (by omega) h2)), fun h => go 1 hx1 (j2 (fun g => h (fun k h1 h2 => ?_)))⟩
      by_cases e : k = i
      · rw [e]; exact hx
      · exact g k (by omega) h2
    · have hx0 : (0 : Int) = (if O i = N i then 1 else 0) := by rw [if_neg hx]
      exact ⟨fun h => absurd (h i (Nat.le_refl i) (by omega)) hx, fun _ => go 0 hx0 z0⟩
theorem d369 {σc σ0 σ : Sg} {hA hB : Nat → Int} {D f f' : Nat} {s : TS} {b : Bool} (F : FL σc σ0) (M : MT hA hB σ0 σ D s) (hf : f < 18) (hf' : f' < 18) (h1 : ¬ σc 652 f = 0) (h2 : ¬ σc 652 f' = 0) (hb : b = true ↔ smP σc (616 + 2 * f) (616 + 2 * f')) : Dd 369 [vA 682, vI f, vI f'] σ (rI (if b = true then 1 else 0) σ) := by
  obtain ⟨n1, a1, a2, a3, a4⟩ := (F f hf).2 h1
  obtain ⟨n2, c1, c2, c3, c4⟩ := (F f' hf').2 h2
  have m : ∀ c k, c = 718 ∨ c = 719 → σ c k = σ0 c k := fun c k h => M.1 c k (by omega) (by omega) (by omega) (by omega)
  rw [← m 718 _ (Or.inl rfl)] at a3 c3
  have go : ∀ {o : Rs}, C369_24 f f' (if n1 = n2 then 1 else 0) ((0 : Nat) : Int) σ o → Dd 369 [vA 682, vI f, vI f'] σ o := by
    intro o hh
    refine b369 ⟨by omega, by omega, b369_20 ?_⟩
    rw [show ((f : Nat) : Int).toNat = f by omega, show ((f' : Nat) : Int).toNat = f' by omega, a3, c3]
    by_cases e : n1 = n2
    · rw [if_pos (by omega)]
      rw [if_pos e] at hh
      exact hh
    · rw [if_neg (by omega)]
      rw [if_neg e] at hh
      exact hh
  by_cases e : n1 = n2
  · subst e
    obtain ⟨j1, j2⟩ := l369 (O := σc (616 + 2 * f + 1)) (N := σc (616 + 2 * f' + 1)) hf hf' a1 a3 (fun i hi => by rw [m _ _ (Or.inr rfl)]; exact a4 i hi) (fun i hi => by rw [m _ _ (Or.inr rfl)]; exact c4 i hi) n1 0 (by omega)
    rw [if_pos rfl] at go
    by_cases y : b = true
    · rw [if_pos y]
      exact go (j1 (fun k _ hk => (hb.mp y).2 k (by omega)))
    · rw [if_neg y]
      exact go (j2 (fun g => y (hb.mpr ⟨by omega, fun k hk => g k (Nat.zero_le k) (by omega)⟩)))
  · rw [if_neg e] at go
    have y : ¬ b = true := fun y => e (by have := (hb.mp y).1; omega)
    rw [if_neg y]
    refine go (b369_24 ⟨by omega, ?_⟩)
    by_cases y : ((0 : Nat) : Int) < σ 718 ((f : Int)).toNat
    · rw [if_pos y, if_pos rfl]; exact ⟨Or.inl rfl, rfl⟩
    · rw [if_neg y]; exact ⟨Or.inl rfl, rfl⟩
theorem q719 : qA 719 0 288 = true := by decide +kernel
/-- likenessOfFiles -/
theorem d370 {σc σ0 σ : Sg} {hA hB : Nat → Int} {D f f' : Nat} {s : TS} (F : FL σc σ0) (M : MT hA hB σ0 σ D s) (hf : f < 18) (hf' : f' < 18) (h1 : ¬ σc 652 f = 0) (h2 : ¬ σc 652 f' = 0) : ∃ σ', Dd 370 [vA 682, vI f, vI f'] σ (rI (lkF σc f f') σ') ∧ MT hA hB σ0 σ' D s := by
  obtain ⟨n1, a1, a2, a3, a4⟩ := (F f hf).2 h1
  obtain ⟨n2, c1, c2, c3, c4⟩ := (F f' hf').2 h2
  have m : ∀ c k, c = 718 ∨ c = 719 → σ c k = σ0 c k := fun c k h => M.1 c k (by omega) (by omega) (by omega) (by omega)
  rw [← m 718 _ (Or.inl rfl)] at a3 c3
  obtain ⟨s1, e1, e2, e3, e4⟩ := d263 (A := 719) (off := 16 * f) (n := n1) (σ := σ) q719 (by decide) (by decide) (by omega) (by omega) (by decide)
  obtain ⟨s2, g1, g2, g3, g4⟩ := d264 (A := 719) (off := 16 * f') (n := n2) (σ := s1) q719 (by decide) (by decide) (by omega) (by omega) (by decide)
  obtain ⟨s3, i1, i2, i3⟩ := d265 (σ0 := s2) (f := σc (616 + 2 * f + 1)) (g := σc (616 + 2 * f' + 1)) (Nat.zero_le n1) (Nat.zero_le n2) (Nat.le_refl n1) (Nat.le_refl n2) (by omega) (by omega) (fun i hi => by
    rw [g4 _ _ (by decide) (by omega), e2 i hi, m _ _ (Or.inr rfl)]
    exact a4 i hi) (fun i hi => by
    rw [g2 i hi, e4 _ _ (by decide) (by omega), m _ _ (Or.inr rfl)]
    exact c4 i hi)
  have v := i2 0 0 (Nat.le_refl 0) (Nat.zero_le n1) (Nat.le_refl 0) (Nat.zero_le n2)
  have bL := lt_b (f := σc (616 + 2 * f + 1)) (g := σc (616 + 2 * f' + 1)) (ae := n1) (be := n2) n1 n2
  have v12 : s2 682 12 = (n1 : Nat) := by rw [g4 _ _ (by decide) (by decide)]; exact e3
  have v0 : s3 694 0 = lt (σc (616 + 2 * f + 1)) (σc (616 + 2 * f' + 1)) n1 n2 n1 n2 := v
  refine ⟨s3, b370 ⟨by omega, by omega, ?_, by omega, by omega, s1, ?_, by omega, by omega, s2, ?_, s3, ?_, fun _ => ?_, fun h => ?_, ?_⟩, fun c k y1 y2 y3 y4 => ?_, fun x hx => ?_⟩
  · rw [show ((f : Nat) : Int).toNat = f by omega, show ((f' : Nat) : Int).toNat = f' by omega, a3, c3]; omega
  · rw [show ((f : Nat) : Int).toNat = f by omega, a3, show 16 * (f : Int) = ((16 * f : Nat) : Int) by omega]
    exact e1
  · rw [show ((f' : Nat) : Int).toNat = f' by omega, e4 _ _ (by decide) (by omega), c3, show 16 * (f' : Int) = ((16 * f' : Nat) : Int) by omega]
    exact g1
  · rw [v12, g3]
    exact i1
  · rw [show ((0 : Int)).toNat = 0 from rfl, v0]; omega
  · rw [show ((f : Nat) : Int).toNat = f by omega, show ((f' : Nat) : Int).toNat = f' by omega, a3, c3] at h ⊢
    omega
  · rw [show ((f : Nat) : Int).toNat = f by omega, show ((f' : Nat) : Int).toNat = f' by omega, a3, c3, show ((0 : Int)).toNat = 0 from rfl, v0]
    unfold lkF
    rw [a2, c2, show ((n1 : Nat) : Int).toNat = n1 by omega, show ((n2 : Nat) : Int).toNat = n2 by omega]
  · rw [i3 c k (by omega), g4 c k (by omega) (by omega), e4 c k (by omega) (by omega)]
    exact M.1 c k y1 y2 y3 y4
  · rw [i3 _ _ (by decide), g4 _ _ (by decide) (by omega), e4 _ _ (by decide) (by omega), i3 _ _ (by decide), g4 _ _ (by decide) (by omega), e4 _ _ (by decide) (by omega)]
    exact M.2 x hx
/-- pairsFiles -/
theorem d372 {hA hB : Nat → Int} {σ0 σ : Sg} {D n e : Nat} {s : TS} {a b : Int} (M : MT hA hB σ0 σ D s) (hD : σ0 682 53 = (D : Nat)) (hD10 : D < 10) (hn : n < 6) (he : e < 6) : ∃ σ', Dd 372 [vA 682, vI a, vI b, vI n, vI e] σ (rV σ') ∧ MT hA hB σ0 σ' D (prS s n e) := by
  have e53 : σ 682 53 = (D : Nat) := by rw [M.1 _ _ (by decide) (by decide) (by omega) (by omega)]; exact hD
  refine ⟨upS (upS σ 720 (6 * D + n) e) 721 e 1, b372 ?_, fun c k y1 y2 y3 y4 => ?_, fun x hx => ⟨?_, fun h => ?_⟩⟩
  · rw [e53, show ((6 * ((D : Nat) : Int)) + (n : Int)).toNat = 6 * D + n by omega, show ((e : Nat) : Int).toNat = e by omega]
    exact ⟨by omega, by omega, by omega, by omega, rfl⟩
  · rw [up_a y2]
    unfold upS
    rw [if_neg (by omega)]
    exact M.1 c k y1 y2 y3 y4
  · rw [up_a (by decide)]
    show _ = if x = n then (e : Int) else s.1 x
    by_cases y : x = n
    · rw [if_pos y, y, up_s]
    · rw [if_neg y, up_k (by omega)]; exact (M.2 x hx).1
  · show _ = if x = e then 1 else s.2 x
    by_cases y : x = e
    · rw [if_pos y, y, up_s]
    · rw [if_neg y, up_k y, up_a (by decide)]; exact (M.2 x hx).2 h
/-- the reference asks of two names what the class asks -/
theorem fr1_iff {hA hB : Nat → Int} {s : TS} {n e : Nat} (I : INV hA hB s) (hn : n < 6) (he : e < 6) : fr1 hA hB s n e ↔ (¬ hA n = 0 ∧ hB n = 0 ∧ s.1 n = -1 ∧ ¬ hB e = 0 ∧ hA e = 0 ∧ s.2 e = 0) := by
  refine ⟨fun h => ⟨h.2.2.1, ?_, h.1, h.2.2.2, ?_, h.2.1⟩, fun h => ⟨h.2.2.1, h.2.2.2.2.2, h.1, h.2.2.2.1⟩⟩
  · by_cases y : hB n = 0
    · exact y
    · exact absurd h.1 ((I n hn).1 h.2.2.1 y).1
  · by_cases y : hA e = 0
    · exact y
    · exact absurd h.2.1 ((I e he).1 y h.2.2.2).2
end
-- DRAFT 96.diff3.lean
/-! difference: the reference's loops. -/
noncomputable section
theorem l374a {σc σ0 : Sg} {D t u : Nat} {d5 : Option AV} (F : FL σc σ0) (hD : σ0 682 53 = (D : Nat)) (hD10 : D < 10) (ht : t < 3) (hu : u < 3) : ∀ (d k : Nat) (σ : Sg), k + d = 6 → (∀ c x, ¬ (691 ≤ c ∧ c ≤ 694) → ¬ c = 721 → ¬ (c = 720 ∧ 6 * D ≤ x ∧ x < 6 * D + 6) → ¬ (c = 682 ∧ (x = 12 ∨ x = 13)) → σ c x = σ0 c x) → (∀ n, n < k → σ 720 (6 * D + n) = (ts0 (hv σc t) (hv σc u)).1 n ∧ σ 721 n = 0) → ∃ σ', (∀ {o : Rs}, (∀ d4, C374_125 t u 0 d4 d5 σ' o) → ∀ d4, C374_45 t u k d4 d5 σ o) ∧ MT (hv σc t) (hv σc u) σ0 σ' D (ts0 (hv σc t) (hv σc u)) := by
  intro d
  induction d with
  | zero =>
    intro k σ hk hF hv'
    refine ⟨σ, fun {o} hh d4 => b374_45 ?_, hF, fun n hn => ⟨(hv' n (by omega)).1, fun h => ?_⟩⟩
    · rw [if_neg (by omega)]
      exact hh _
    · rw [(hv' n (by omega)).2]
      show (0 : Int) = if ¬ hv σc t n = 0 ∧ ¬ hv σc u n = 0 then 1 else 0
      rw [if_neg (fun g => by
        rcases h with h | h
        · exact g.1 h
        · exact g.2 h)]
  | succ d ih =>
    intro k σ hk hF hv'
    obtain ⟨v, hvv⟩ : ∃ v, v = (ts0 (hv σc t) (hv σc u)).1 k := ⟨_, rfl⟩
    have e53 : σ 682 53 = (D : Nat) := by rw [hF _ _ (by decide) (by decide) (by omega) (by omega)]; exact hD
    have g1 : σ 717 (6 * t + k) = hv σc t k := by
      rw [hF _ _ (by decide) (by decide) (by omega) (by omega)]
      exact (F _ (by omega)).1
    have g2 : σ 717 (6 * u + k) = hv σc u k := by
      rw [hF _ _ (by decide) (by decide) (by omega) (by omega)]
      exact (F _ (by omega)).1
    obtain ⟨σ', a1, a2⟩ := ih (k + 1) (upS (upS σ 720 (6 * D + k) v) 721 k 0) (by omega) (fun c x y1 y2 y3 y4 => by
      rw [up_a y2]
      unfold upS
      rw [if_neg (by omega)]
      exact hF c x y1 y2 y3 y4) (fun n hn => by
      by_cases q : n = k
      · rw [q, up_a (by decide), up_s, up_s]
        exact ⟨hvv, rfl⟩
      · rw [up_a (by decide), up_k (by omega), up_k q, up_a (by decide)]
        exact hv' n (by omega))
    refine ⟨σ', fun {o} hh d4 => b374_45 ?_, a2⟩
    have z : ∀ y0 : Int, (if y0 = 0 then (-1 : Int) else (k : Int)) = v → C374_84 t u k d4 d5 y0 σ o := by
      intro y0 hy
      refine b374_84 ⟨by omega, by omega, b374_109 ?_⟩
      rw [hy, e53, show ((6 * ((D : Nat) : Int)) + (k : Int)).toNat = 6 * D + k by omega, show ((k : Nat) : Int).toNat = k by omega, show (k : Int) + 1 = ((k + 1 : Nat) : Int) by omega]
      exact ⟨by omega, by omega, by omega, a1 hh _⟩
    rw [if_pos (by omega), show ((6 * (t : Int)) + (k : Int)).toNat = 6 * t + k by omega, show ((6 * (u : Int)) + (k : Int)).toNat = 6 * u + k by omega, g1, g2]
    refine ⟨by omega, by omega, by omega, ?_⟩
    have ev : v = if ¬ hv σc t k = 0 ∧ ¬ hv σc u k = 0 then (k : Int) else -1 := hvv
    by_cases y1 : hv σc t k = 0
    · rw [if_pos y1]
      refine b374_83 (z 0 ?_)
      rw [if_pos rfl, ev, if_neg (fun g => g.1 y1)]
    · rw [if_neg y1]
      refine ⟨by omega, by omega, by omega, ?_⟩
      by_cases y2 : hv σc u k = 0
      · rw [if_pos y2]
        refine b374_83 (z 0 ?_)
        rw [if_pos rfl, ev, if_neg (fun g => g.2 y2)]
      · rw [if_neg y2]
        refine z 1 ?_
        rw [if_neg (show ¬ (1 : Int) = 0 by decide), ev, if_pos ⟨y1, y2⟩]
theorem l374b {σc σ0 : Sg} {D t u n : Nat} {sm : Nat → Nat → Bool} (F : FL σc σ0) (hD : σ0 682 53 = (D : Nat)) (hD10 : D < 10) (ht : t < 3) (hu : u < 3) (hn : n < 6) (hsm : ∀ n e, n < 6 → e < 6 → (sm n e = true ↔ smP σc (616 + 2 * (6 * t + n)) (616 + 2 * (6 * u + e)))) : ∀ (d : Nat) (σ : Sg) (s : TS), d ≤ 6 → INV (hv σc t) (hv σc u) s → MT (hv σc t) (hv σc u) σ0 σ D s → ∃ σ', (∀ {o : Rs}, (∀ d4 d5, C374_125 t u ((n + 1 : Nat) : Int) d4 d5 σ' o) → ∀ d5, C374_134 t u n ((6 - d : Nat) : Int) d5 σ o) ∧ MT (hv σc t) (hv σc u) σ0 σ' D (pI (hv σc t) (hv σc u) sm n d s) := by
  intro d
  induction d with
  | zero =>
    intro σ s hd I M
    refine ⟨σ, fun {o} hh d5 => b374_134 ?_, M⟩
    rw [if_neg (by omega), show (n : Int) + 1 = ((n + 1 : Nat) : Int) by omega]
    exact ⟨by omega, hh _ _⟩
  | succ d ih =>
    intro σ s hd I M
    rw [show 6 - (d + 1) = 5 - d by omega]
    have e53 : σ 682 53 = (D : Nat) := by rw [M.1 _ _ (by decide) (by decide) (by omega) (by omega)]; exact hD
    have q1 := d371 (n := n) F M ht hu hn
    have q2 := d371 (n := 5 - d) F M hu ht (by omega)
    have m1 := (M.2 n hn).1
    have m2 := (M.2 (5 - d) (by omega)).2
    have iff := fr1_iff (n := n) (e := 5 - d) I hn (by omega)
    have cnd : ∀ {o : Rs} {d5 : Option AV}, (fr1 (hv σc t) (hv σc u) s n (5 - d) → C374_195 t u n ((5 - d : Nat) : Int) d5 1 σ o) → (¬ fr1 (hv σc t) (hv σc u) s n (5 - d) → C374_194 t u n ((5 - d : Nat) : Int) d5 σ o) → C374_134 t u n ((5 - d : Nat) : Int) d5 σ o := by
      intro o d5 hy hx
      refine b374_134 ?_
      rw [if_pos (by omega)]
      refine ⟨_, _, q1, ?_⟩
      by_cases y1 : hv σc t n = 0
      · rw [if_pos y1, if_pos rfl]
        exact hx (fun h => (iff.mp h).1 y1)
      · rw [if_neg y1]
        by_cases y2 : hv σc u n = 0
        · rw [if_pos y2, if_neg (show ¬ (1 : Int) = 0 by decide), e53, show ((6 * ((D : Nat) : Int)) + (n : Int)).toNat = 6 * D + n by omega, m1]
          refine ⟨by omega, by omega, by omega, ?_⟩
          by_cases y3 : s.1 n = -1
          · rw [if_pos y3]
            refine ⟨_, _, q2, ?_⟩
            by_cases y4 : hv σc u (5 - d) = 0
            · rw [if_pos y4, if_pos rfl]
              exact hx (fun h => (iff.mp h).2.2.2.1 y4)
            · rw [if_neg y4]
              by_cases y5 : hv σc t (5 - d) = 0
              · rw [if_pos y5, if_neg (show ¬ (1 : Int) = 0 by decide), show ((5 - d : Nat) : Int).toNat = 5 - d by omega, m2 (Or.inl y5)]
                refine ⟨by omega, ?_⟩
                by_cases y6 : s.2 (5 - d) = 0
                · rw [if_pos y6]
                  exact hy (iff.mpr ⟨y1, y2, y3, y4, y5, y6⟩)
                · rw [if_neg y6]
                  exact hx (fun h => y6 h.2.1)
              · rw [if_neg y5, if_pos rfl]
                exact hx (fun h => y5 (iff.mp h).2.2.2.2.1)
          · rw [if_neg y3]
            exact hx (fun h => y3 h.1)
        · rw [if_neg y2, if_pos rfl]
          exact hx (fun h => y2 (iff.mp h).2.1)
    have to : ∀ {σ1 : Sg} {o : Rs}, (∀ d5, C374_134 t u n ((6 - d : Nat) : Int) d5 σ1 o) → ∀ d5, C374_231 t u n ((5 - d : Nat) : Int) d5 σ1 o := by
      intro σ1 o hh d5
      refine b374_231 ⟨by omega, ?_⟩
      rw [show ((5 - d : Nat) : Int) + 1 = ((6 - d : Nat) : Int) by omega]
      exact hh d5
    have un : pI (hv σc t) (hv σc u) sm n (d + 1) s = pI (hv σc t) (hv σc u) sm n d (if fr1 (hv σc t) (hv σc u) s n (5 - d) ∧ sm n (5 - d) = true then prS s n (5 - d) else s) := rfl
    rw [un]
    by_cases y : fr1 (hv σc t) (hv σc u) s n (5 - d)
    · have q3 := d369 (f := 6 * t + n) (f' := 6 * u + (5 - d)) (b := sm n (5 - d)) F M (by omega) (by omega) y.2.2.1 y.2.2.2 (hsm n (5 - d) hn (by omega))
      rw [show ((6 * t + n : Nat) : Int) = (6 * (t : Int)) + (n : Int) by omega, show ((6 * u + (5 - d) : Nat) : Int) = (6 * (u : Int)) + ((5 - d : Nat) : Int) by omega] at q3
      by_cases y2 : sm n (5 - d) = true
      · rw [if_pos y2] at q3
        obtain ⟨σ1, a1, a2⟩ := d372 (a := (t : Int)) (b := (u : Int)) (n := n) (e := 5 - d) M hD hD10 hn (by omega)
        obtain ⟨σ', c1, c2⟩ := ih σ1 _ (by omega) (INV_p I (by omega)) a2
        rw [if_pos ⟨y, y2⟩]
        refine ⟨σ', fun {o} hh d5 => cnd (fun _ => b374_195 ?_) (fun h => absurd y h), c2⟩
        rw [if_neg (show ¬ (1 : Int) = 0 by decide)]
        refine ⟨by omega, by omega, by omega, by omega, _, _, q3, ?_⟩
        rw [if_neg (show ¬ (1 : Int) = 0 by decide)]
        exact ⟨_, a1, to (c1 hh) _⟩
      · rw [if_neg y2] at q3
        obtain ⟨σ', c1, c2⟩ := ih σ s (by omega) I M
        rw [if_neg (fun h => y2 h.2)]
        refine ⟨σ', fun {o} hh d5 => cnd (fun _ => b374_195 ?_) (fun h => absurd y h), c2⟩
        rw [if_neg (show ¬ (1 : Int) = 0 by decide)]
        refine ⟨by omega, by omega, by omega, by omega, _, _, q3, ?_⟩
        rw [if_pos rfl]
        exact to (c1 hh) _
    · obtain ⟨σ', c1, c2⟩ := ih σ s (by omega) I M
      rw [if_neg (fun h => y h.1)]
      refine ⟨σ', fun {o} hh d5 => cnd (fun h => absurd h y) (fun _ => b374_194 (b374_195 ?_)), c2⟩
      rw [if_pos rfl]
      exact to (c1 hh) _
theorem l374c {σc σ0 : Sg} {D t u : Nat} {sm : Nat → Nat → Bool} (F : FL σc σ0) (hD : σ0 682 53 = (D : Nat)) (hD10 : D < 10) (ht : t < 3) (hu : u < 3) (hsm : ∀ n e, n < 6 → e < 6 → (sm n e = true ↔ smP σc (616 + 2 * (6 * t + n)) (616 + 2 * (6 * u + e)))) : ∀ (d : Nat) (σ : Sg) (s : TS), d ≤ 6 → INV (hv σc t) (hv σc u) s → MT (hv σc t) (hv σc u) σ0 σ D s → ∃ σ', (∀ {o : Rs}, (∀ d4 d5, C374_245 t u 1 d4 d5 σ' o) → ∀ d4 d5, C374_125 t u ((6 - d : Nat) : Int) d4 d5 σ o) ∧ MT (hv σc t) (hv σc u) σ0 σ' D (pO (hv σc t) (hv σc u) sm d s) := by
  intro d
  induction d with
  | zero =>
    intro σ s hd I M
    refine ⟨σ, fun {o} hh d4 d5 => b374_125 ?_, M⟩
    rw [if_neg (by omega)]
    exact hh _ _
  | succ d ih =>
    intro σ s hd I M
    obtain ⟨σ1, a1, a2⟩ := l374b (n := 5 - d) F hD hD10 ht hu (by omega) hsm 6 σ s (by omega) I M
    obtain ⟨σ', c1, c2⟩ := ih σ1 _ (by omega) (INV_pI 6 s (by omega) I) a2
    refine ⟨σ', fun {o} hh d4 d5 => b374_125 ?_, c2⟩
    rw [if_pos (by omega), show 6 - (d + 1) = 5 - d by omega]
    rw [show 5 - d + 1 = 6 - d by omega] at a1
    exact a1 (c1 hh) _
/-- pairsLikest -/
theorem l373b {σc σ0 : Sg} {D t u n : Nat} {s : TS} (F : FL σc σ0) (hD : σ0 682 53 = (D : Nat)) (hD10 : D < 10) (ht : t < 3) (hu : u < 3) (hn : n < 6) (I : INV (hv σc t) (hv σc u) s) : ∀ (d : Nat) (σ : Sg) (b : BT), d ≤ 6 → 59 ≤ b.1 → MT (hv σc t) (hv σc u) σ0 σ D s → ∃ σ' b', b' = mI (hv σc t) (hv σc u) (fun n e => lkF σc (6 * t + n) (6 * u + e)) s n d b ∧ 59 ≤ b'.1 ∧ (∀ {o : Rs}, (∀ d7 d8 d9, C373_12 t u b'.1 b'.2.1 b'.2.2 ((n + 1 : Nat) : Int) d7 d8 d9 σ' o) → ∀ d8 d9, C373_22 t u b.1 b.2.1 b.2.2 n ((6 - d : Nat) : Int) d8 d9 σ o) ∧ MT (hv σc t) (hv σc u) σ0 σ' D s := by
  intro d
  induction d with
  | zero =>
    intro σ b hd hb M
    refine ⟨σ, b, rfl, hb, fun {o} hh d8 d9 => b373_22 ?_, M⟩
    rw [if_neg (by omega), show (n : Int) + 1 = ((n + 1 : Nat) : Int) by omega]
    exact ⟨by omega, hh _ _ _⟩
  | succ d ih =>
    intro σ b hd hb M
    rw [show 6 - (d + 1) = 5 - d by omega]
    have e53 : σ 682 53 = (D : Nat) := by rw [M.1 _ _ (by decide) (by decide) (by omega) (by omega)]; exact hD
    have q1 := d371 (n := n) F M ht hu hn
    have q2 := d371 (n := 5 - d) F M hu ht (by omega)
    have m1 := (M.2 n hn).1
    have m2 := (M.2 (5 - d) (by omega)).2
    have iff := fr1_iff (n := n) (e := 5 - d) I hn (by omega)
    have cnd : ∀ {o : Rs} {d8 d9 : Option AV}, (fr1 (hv σc t) (hv σc u) s n (5 - d) → C373_85 t u b.1 b.2.1 b.2.2 n ((5 - d : Nat) : Int) d8 d9 1 σ o) → (¬ fr1 (hv σc t) (hv σc u) s n (5 - d) → C373_84 t u b.1 b.2.1 b.2.2 n ((5 - d : Nat) : Int) d8 d9 σ o) → C373_22 t u b.1 b.2.1 b.2.2 n ((5 - d : Nat) : Int) d8 d9 σ o := by
      intro o d8 d9 hy hx
      refine b373_22 ?_
      rw [if_pos (by omega)]
      refine ⟨_, _, q1, ?_⟩
      by_cases y1 : hv σc t n = 0
      · rw [if_pos y1, if_pos rfl]
        exact hx (fun h => (iff.mp h).1 y1)
      · rw [if_neg y1]
        by_cases y2 : hv σc u n = 0
        · rw [if_pos y2, if_neg (show ¬ (1 : Int) = 0 by decide), e53, show ((6 * ((D : Nat) : Int)) + (n : Int)).toNat = 6 * D + n by omega, m1]
          refine ⟨by omega, by omega, by omega, ?_⟩
          by_cases y3 : s.1 n = -1
          · rw [if_pos y3]
            refine ⟨_, _, q2, ?_⟩
            by_cases y4 : hv σc u (5 - d) = 0
            · rw [if_pos y4, if_pos rfl]
              exact hx (fun h => (iff.mp h).2.2.2.1 y4)
            · rw [if_neg y4]
              by_cases y5 : hv σc t (5 - d) = 0
              · rw [if_pos y5, if_neg (show ¬ (1 : Int) = 0 by decide), show ((5 - d : Nat) : Int).toNat = 5 - d by omega, m2 (Or.inl y5)]
                refine ⟨by omega, ?_⟩
                by_cases y6 : s.2 (5 - d) = 0
                · rw [if_pos y6]
                  exact hy (iff.mpr ⟨y1, y2, y3, y4, y5, y6⟩)
                · rw [if_neg y6]
                  exact hx (fun h => y6 h.2.1)
              · rw [if_neg y5, if_pos rfl]
                exact hx (fun h => y5 (iff.mp h).2.2.2.2.1)
          · rw [if_neg y3]
            exact hx (fun h => y3 h.1)
        · rw [if_neg y2, if_pos rfl]
          exact hx (fun h => y2 (iff.mp h).2.1)
    have to : ∀ {σ1 : Sg} {b1 : BT} {v : Int} {o : Rs}, b1 = (if b.1 < v then (v, (n : Int), ((5 - d : Nat) : Int)) else b) → (∀ d8 d9, C373_22 t u b1.1 b1.2.1 b1.2.2 n ((6 - d : Nat) : Int) d8 d9 σ1 o) → ∀ d8 d9, C373_114 t u b.1 b.2.1 b.2.2 n ((5 - d : Nat) : Int) d8 d9 v σ1 o := by
      intro σ1 b1 v o hb1 hh d8 d9
      refine b373_114 (b373_129 (b373_144 (b373_158 ⟨by omega, ?_⟩)))
      rw [show ((5 - d : Nat) : Int) + 1 = ((6 - d : Nat) : Int) by omega]
      by_cases y : b.1 < v
      · rw [if_pos y] at hb1
        rw [if_pos y, if_pos y, if_pos y]
        rw [hb1] at hh
        exact hh _ _
      · rw [if_neg y] at hb1
        rw [if_neg y, if_neg y, if_neg y]
        rw [hb1] at hh
        exact hh _ _
    have un : mI (hv σc t) (hv σc u) (fun n e => lkF σc (6 * t + n) (6 * u + e)) s n (d + 1) b = mI (hv σc t) (hv σc u) (fun n e => lkF σc (6 * t + n) (6 * u + e)) s n d (if fr1 (hv σc t) (hv σc u) s n (5 - d) ∧ b.1 < lkF σc (6 * t + n) (6 * u + (5 - d)) then (lkF σc (6 * t + n) (6 * u + (5 - d)), (n : Int), ((5 - d : Nat) : Int)) else b) := rfl
    rw [un]
    by_cases y : fr1 (hv σc t) (hv σc u) s n (5 - d)
    · obtain ⟨σ1, a1, a2⟩ := d370 (f := 6 * t + n) (f' := 6 * u + (5 - d)) F M (by omega) (by omega) y.2.2.1 y.2.2.2
      rw [show ((6 * t + n : Nat) : Int) = (6 * (t : Int)) + (n : Int) by omega, show ((6 * u + (5 - d) : Nat) : Int) = (6 * (u : Int)) + ((5 - d : Nat) : Int) by omega] at a1
      obtain ⟨b1, hb1⟩ : ∃ b1 : BT, b1 = if b.1 < lkF σc (6 * t + n) (6 * u + (5 - d)) then (lkF σc (6 * t + n) (6 * u + (5 - d)), (n : Int), ((5 - d : Nat) : Int)) else b := ⟨_, rfl⟩
      have e1 : (if fr1 (hv σc t) (hv σc u) s n (5 - d) ∧ b.1 < lkF σc (6 * t + n) (6 * u + (5 - d)) then (lkF σc (6 * t + n) (6 * u + (5 - d)), (n : Int), ((5 - d : Nat) : Int)) else b) = b1 := by
        rw [hb1]
        by_cases y2 : b.1 < lkF σc (6 * t + n) (6 * u + (5 - d))
        · rw [if_pos ⟨y, y2⟩, if_pos y2]
        · rw [if_neg (fun h => y2 h.2), if_neg y2]
      rw [e1]
      have h59 : 59 ≤ b1.1 := by
        rw [hb1]
        by_cases y2 : b.1 < lkF σc (6 * t + n) (6 * u + (5 - d))
        · rw [if_pos y2]
          dsimp only
          omega
        · rw [if_neg y2]; exact hb
      obtain ⟨σ', b', c0, c1, c2, c3⟩ := ih σ1 b1 (by omega) h59 a2
      refine ⟨σ', b', c0, c1, fun {o} hh d8 d9 => cnd (fun _ => b373_85 ?_) (fun h => absurd y h), c3⟩
      rw [if_neg (show ¬ (1 : Int) = 0 by decide)]
      exact ⟨by omega, by omega, by omega, by omega, _, _, a1, to hb1 (c2 hh) _ _⟩
    · obtain ⟨σ', b', c0, c1, c2, c3⟩ := ih σ b (by omega) hb M
      rw [if_neg (fun h => y h.1)]
      refine ⟨σ', b', c0, c1, fun {o} hh d8 d9 => cnd (fun h => absurd h y) (fun _ => b373_84 (b373_85 ?_)), c3⟩
      rw [if_pos rfl]
      exact to (by rw [if_neg (by omega)]) (c2 hh) _ _
theorem d373 {σc σ0 σ : Sg} {D t u : Nat} {s : TS} (F : FL σc σ0) (hD : σ0 682 53 = (D : Nat)) (hD10 : D < 10) (ht : t < 3) (hu : u < 3) (I : INV (hv σc t) (hv σc u) s) (M : MT (hv σc t) (hv σc u) σ0 σ D s) : ∃ σ', Dd 373 [vA 682, vI t, vI u] σ (rI (if (mB (hv σc t) (hv σc u) (fun n e => lkF σc (6 * t + n) (6 * u + e)) s).2.1 = -1 then 0 else 1) σ') ∧ MT (hv σc t) (hv σc u) σ0 σ' D (sA (hv σc t) (hv σc u) (fun n e => lkF σc (6 * t + n) (6 * u + e)) s) := by
  have L : ∀ (d : Nat) (σ : Sg) (b : BT), d ≤ 6 → 59 ≤ b.1 → MT (hv σc t) (hv σc u) σ0 σ D s → ∃ σ' b', b' = mO (hv σc t) (hv σc u) (fun n e => lkF σc (6 * t + n) (6 * u + e)) s d b ∧ (∀ {o : Rs}, (∀ d7 d8 d9, C373_12 t u b'.1 b'.2.1 b'.2.2 6 d7 d8 d9 σ' o) → ∀ d7 d8 d9, C373_12 t u b.1 b.2.1 b.2.2 ((6 - d : Nat) : Int) d7 d8 d9 σ o) ∧ MT (hv σc t) (hv σc u) σ0 σ' D s := by
    intro d
    induction d with
    | zero =>
      intro σ b hd hb M
      exact ⟨σ, b, rfl, fun {o} hh => hh, M⟩
    | succ d ih =>
      intro σ b hd hb M
      obtain ⟨σ1, b1, c0, c1, c2, c3⟩ := l373b (n := 5 - d) F hD hD10 ht hu (by omega) I 6 σ b (by omega) hb M
      obtain ⟨σ', b', e0, e1, e2⟩ := ih σ1 b1 (by omega) c1 c3
      refine ⟨σ', b', by rw [e0, c0]; rfl, fun {o} hh d7 d8 d9 => b373_12 ?_, e2⟩
      rw [if_pos (by omega), show 6 - (d + 1) = 5 - d by omega]
      rw [show 5 - d + 1 = 6 - d by omega] at c2
      exact c2 (e1 hh) _ _
  obtain ⟨σ1, b, e0, e1, e2⟩ := L 6 σ (59, -1, -1) (by omega) (by decide) M
  have ok := mB_ok (hA := hv σc t) (hB := hv σc u) (lk := fun n e => lkF σc (6 * t + n) (6 * u + e)) (s := s)
  have eb : mB (hv σc t) (hv σc u) (fun n e => lkF σc (6 * t + n) (6 * u + e)) s = b := e0.symm
  unfold sA
  rw [eb] at ok ⊢
  rcases ok with ⟨k1, k2⟩ | ⟨n, e, k1, k2, k3, k4, k5⟩
  · rw [if_pos k1, if_pos k1]
    refine ⟨σ1, b373 (e1 (fun d7 d8 d9 => b373_12 ?_) _ _ _), e2⟩
    rw [if_neg (by decide), if_pos k1]
    refine b373_187 ?_
    rw [if_pos k1]
  · have hne : ¬ b.2.1 = -1 := by omega
    rw [if_neg hne, if_neg hne]
    obtain ⟨σ2, a1, a2⟩ := d372 (a := (t : Int)) (b := (u : Int)) (n := n) (e := e) e2 hD hD10 k1 k2
    rw [k3, k4, show ((n : Nat) : Int).toNat = n by omega, show ((e : Nat) : Int).toNat = e by omega]
    refine ⟨σ2, b373 (e1 (fun d7 d8 d9 => b373_12 ?_) _ _ _), a2⟩
    rw [if_neg (by decide), if_neg hne, k3, k4]
    refine ⟨_, a1, b373_187 ?_⟩
    rw [if_neg (by omega)]
theorem l374d {σc σ0 : Sg} {D t u : Nat} (F : FL σc σ0) (hD : σ0 682 53 = (D : Nat)) (hD10 : D < 10) (ht : t < 3) (hu : u < 3) : ∀ (w : Nat) (σ : Sg) (s : TS), frc s ≤ w → INV (hv σc t) (hv σc u) s → MT (hv σc t) (hv σc u) σ0 σ D s → ∃ σ', (∀ d4 d5, C374_245 t u 1 d4 d5 σ (rI (D : Nat) (upS σ' 682 53 ((D : Int) + 1)))) ∧ MT (hv σc t) (hv σc u) σ0 σ' D (sN (hv σc t) (hv σc u) (fun n e => lkF σc (6 * t + n) (6 * u + e)) w s) := by
  intro w
  induction w with
  | zero =>
    intro σ s hw I M
    obtain ⟨σ1, a1, a2⟩ := d373 F hD hD10 ht hu I M
    have ok := mB_ok (hA := hv σc t) (hB := hv σc u) (lk := fun n e => lkF σc (6 * t + n) (6 * u + e)) (s := s)
    rcases ok with ⟨k1, k2⟩ | ⟨n, e, k1, k2, k3, k4, k5⟩
    · rw [if_pos k1] at a1
      have es : sA (hv σc t) (hv σc u) (fun n e => lkF σc (6 * t + n) (6 * u + e)) s = s := by unfold sA; rw [if_pos k1]
      rw [es] at a2
      have e53 : σ1 682 53 = (D : Nat) := by rw [a2.1 _ _ (by decide) (by decide) (by omega) (by omega)]; exact hD
      refine ⟨σ1, fun d4 d5 => b374_245 ?_, a2⟩
      rw [if_neg (show ¬ (1 : Int) = 0 by decide)]
      refine ⟨_, _, a1, b374_245 ?_⟩
      rw [if_pos rfl, e53, up_s, show ((D : Nat) : Int) + 1 - 1 = (D : Int) by omega]
      exact ⟨by omega, by omega, rfl⟩
    · exfalso
      have := frc_p (n := n) k2 k5.2.1
      omega
  | succ w ih =>
    intro σ s hw I M
    obtain ⟨σ1, a1, a2⟩ := d373 F hD hD10 ht hu I M
    have ok := mB_ok (hA := hv σc t) (hB := hv σc u) (lk := fun n e => lkF σc (6 * t + n) (6 * u + e)) (s := s)
    rcases ok with ⟨k1, k2⟩ | ⟨n, e, k1, k2, k3, k4, k5⟩
    · rw [if_pos k1] at a1
      have es : sA (hv σc t) (hv σc u) (fun n e => lkF σc (6 * t + n) (6 * u + e)) s = s := by unfold sA; rw [if_pos k1]
      rw [es] at a2
      have e53 : σ1 682 53 = (D : Nat) := by rw [a2.1 _ _ (by decide) (by decide) (by omega) (by omega)]; exact hD
      rw [sN_fix es]
      refine ⟨σ1, fun d4 d5 => b374_245 ?_, a2⟩
      rw [if_neg (show ¬ (1 : Int) = 0 by decide)]
      refine ⟨_, _, a1, b374_245 ?_⟩
      rw [if_pos rfl, e53, up_s, show ((D : Nat) : Int) + 1 - 1 = (D : Int) by omega]
      exact ⟨by omega, by omega, rfl⟩
    · have hne : ¬ (mB (hv σc t) (hv σc u) (fun n e => lkF σc (6 * t + n) (6 * u + e)) s).2.1 = -1 := by omega
      rw [if_neg hne] at a1
      have hf : frc (sA (hv σc t) (hv σc u) (fun n e => lkF σc (6 * t + n) (6 * u + e)) s) ≤ w := by
        unfold sA
        rw [if_neg hne, k3, k4, show ((n : Nat) : Int).toNat = n by omega, show ((e : Nat) : Int).toNat = e by omega]
        have := frc_p (n := n) k2 k5.2.1
        omega
      obtain ⟨σ', c1, c2⟩ := ih σ1 _ hf (INV_sA I) a2
      refine ⟨σ', fun d4 d5 => b374_245 ?_, c2⟩
      rw [if_neg (show ¬ (1 : Int) = 0 by decide)]
      exact ⟨_, _, a1, c1 _ _⟩
end
-- DRAFT 97.diff4.lean
/-! difference, the call. -/
noncomputable section
/-- noteGoals -/
theorem d58 {σ : Sg} {D : Nat} (h3 : σ 653 1 = 6 * (D : Int)) (hD : D < 10) (h5 : σ 655 1 = 6) : ∃ s, Dd 58 [vA 614] σ (rI (D : Nat) s) ∧ s 653 1 = 6 * (D : Int) + 6 ∧ (∀ i, i < 6 * D → s 654 i = σ 654 i) ∧ (∀ i, i < 6 → s 654 (6 * D + i) = σ 656 i) ∧ ∀ c k, ¬ c = 653 → ¬ c = 654 → s c k = σ c k := by
  have hA : Rw σ 653 (rl σ 653) := Rw_rl (by omega)
  have hB : Rw σ 655 (rl σ 655) := Rw_rl (by omega)
  have lA : (rl σ 653).length = 6 * D := by have := hA.1; omega
  have lB : (rl σ 655).length = 6 := by have := hB.1; omega
  have e5 : (((rl σ 655).take (6 : Int).toNat).drop (0 : Int).toNat) = rl σ 655 := by
    show ((rl σ 655).take 6).drop 0 = rl σ 655
    rw [List.drop_zero, List.take_of_length_le (by omega)]
  obtain ⟨s, g1, g2, g3⟩ := d154 (x := 0) (y := 6) r653.1 r653.2.2.1 hA hB (by rw [r653.2.2.2]; omega) (by decide) (by rw [e5, r653.2.1]; omega)
  rw [e5] at g2
  have e653 : s 653 1 = 6 * ((D + 1 : Nat) : Int) := by rw [g2.1, List.length_append]; omega
  have e146 := d146 (σ := σ) r653.2.2.1
  rw [h5] at e146
  have gA : ∀ i, i < 6 * D → (rl σ 653)[i]? = some (σ 654 i) := fun i hi => by
    unfold rl
    rw [List.getElem?_map, List.getElem?_range (by omega)]
    rfl
  have gB : ∀ i, i < 6 → (rl σ 655)[i]? = some (σ 656 i) := fun i hi => by
    unfold rl
    rw [List.getElem?_map, List.getElem?_range (by omega)]
    rfl
  refine ⟨s, b58 ⟨_, _, e146, _, g1, _, _, d54_ok e653, by omega, ?_⟩, by omega, fun i hi => ?_, fun i hi => ?_, fun c k h1 h2 => g3 c k h1 h2⟩
  · rw [show ((D + 1 : Nat) : Int) - 1 = (D : Int) by omega]
  · exact g2.2 i _ (by rw [List.getElem?_append_left (by omega)]; exact gA i hi)
  · exact g2.2 _ _ (by rw [List.getElem?_append_right (by omega), lA, Nat.add_sub_cancel_left]; exact gB i hi)
/-- Forest.findDifference -/
theorem d56 {σ : Sg} {D t u : Nat} {sm : Nat → Nat → Bool} (w : WF σ) (ht : t < 3) (hu : u < 3) (h3 : σ 653 1 = 6 * (D : Int)) (hD : D < 10) (hsm : ∀ n e, n < 6 → e < 6 → (sm n e = true ↔ smP σ (616 + 2 * (6 * t + n)) (616 + 2 * (6 * u + e)))) : ∃ s1 s, Dd 56 [vA 614, vI t, vI u] σ (rI (D : Nat) s) ∧ CT σ s1 (sN (hv σ t) (hv σ u) (fun n e => lkF σ (6 * t + n) (6 * u + e)) 6 (pO (hv σ t) (hv σ u) sm 6 (ts0 (hv σ t) (hv σ u)))) ∧ s 653 1 = 6 * (D : Int) + 6 ∧ (∀ i, i < 6 * D → s 654 i = s1 654 i) ∧ (∀ i, i < 6 → s 654 (6 * D + i) = s1 656 i) ∧ ∀ c k, ¬ c = 653 → ¬ c = 654 → s c k = s1 c k := by
  have e153 := d153 (σ := σ) (a := 655) (n := 6) (v := -1) r653.2.2.1
  have f0 : ∀ c k, ¬ (c = 655 ∧ k = 1) → ¬ c = 656 → flS σ 655 6 (-1) c k = σ c k := by
    intro c k y1 y2
    by_cases y : c = 655
    · subst y
      unfold flS flS1
      rw [if_neg (by omega), up_k (by omega)]
    · exact fl_off y y2
  have f1 : flS σ 655 6 (-1) 655 1 = 6 := fl_sz (by decide) (by rw [r653.2.2.2]; decide)
  have f2 : ∀ n : Nat, n < 6 → flS σ 655 6 (-1) 656 n = -1 := fun n hn => fl_val (a := 655) (by decide) (by rw [r653.2.2.2]; decide) (by omega)
  generalize flS σ 655 6 (-1) = s0 at e153 f0 f1 f2
  have W0 : WF s0 := WF_row (r := 655) (fun a ha hne => f0 a 1 (fun e => hne e.1) (row_nx r653.2.2.1 ha)) (by rw [f1, r653.2.2.2]; decide) w
  have L : ∀ (d k : Nat) (σ' : Sg), k + d = 6 → (∀ c x, ¬ c = 657 → σ' c x = s0 c x) → (∀ n, n < k → σ' 657 n = 0) → ∃ σ'', (∀ {o : Rs}, (∀ d3, C56_40 t u d3 σ'' o) → C56_12 t u k σ' o) ∧ (∀ c x, ¬ c = 657 → σ'' c x = s0 c x) ∧ ∀ n, n < 6 → σ'' 657 n = 0 := by
    intro d
    induction d with
    | zero =>
      intro k σ' hk hF h0
      refine ⟨σ', fun {o} hh => b56_12 ?_, hF, fun n hn => h0 n (by omega)⟩
      rw [if_neg (by omega)]
      exact hh _
    | succ d ih =>
      intro k σ' hk hF h0
      obtain ⟨σ'', a1, a2, a3⟩ := ih (k + 1) (upS σ' 657 k 0) (by omega) (fun c x hc => by rw [up_a hc]; exact hF c x hc) (fun n hn => by
        by_cases y : n = k
        · rw [y, up_s]
        · rw [up_k y]; exact h0 n (by omega))
      refine ⟨σ'', fun {o} hh => b56_12 ?_, a2, a3⟩
      rw [if_pos (by omega), if_pos (by omega), show ((k : Nat) : Int).toNat = k by omega, show (k : Int) + 1 = ((k + 1 : Nat) : Int) by omega]
      exact ⟨by omega, by omega, a1 hh⟩
  obtain ⟨s1, a1, a2, a3⟩ := L 6 0 s0 (by omega) (fun _ _ _ => rfl) (fun n hn => absurd hn (Nat.not_lt_zero n))
  have C0 : CT σ s1 (fun _ => -1, fun _ => 0) := by
    refine ⟨WF_e (fun a ha => a2 a 1 ?_) W0, fun c k y1 y2 y3 y4 y5 y6 => by rw [a2 c k y5]; exact f0 c k y6 y4, by rw [a2 _ _ (by decide)]; exact f1, fun n hn => ⟨by rw [a2 _ _ (by decide)]; exact f2 n hn, a3 n hn⟩⟩
    intro q
    subst q
    exact absurd ha (by decide +kernel)
  obtain ⟨s2, c1, c2⟩ := d60 ht hu C0
  obtain ⟨s3, e1, e2⟩ := d61 ht hu hsm c2
  have L2 : ∀ (d : Nat) (σ' : Sg) (s : TS), d ≤ 6 → CT σ σ' s → ∃ σ'', (∀ {o : Rs}, (∃ (v5 : Int) (s4 : Sg), Dd 58 [vA 614] σ'' (rI v5 s4) ∧ o = rI v5 s4) → C56_54 t u ((6 - d : Nat) : Int) σ' o) ∧ CT σ σ'' (sN (hv σ t) (hv σ u) (fun n e => lkF σ (6 * t + n) (6 * u + e)) d s) := by
    intro d
    induction d with
    | zero =>
      intro σ' s hd C
      refine ⟨σ', fun {o} hh => b56_54 ?_, C⟩
      rw [if_neg (by omega)]
      exact hh
    | succ d ih =>
      intro σ' s hd C
      obtain ⟨σ1, g1, g2⟩ := d62 ht hu C
      obtain ⟨σ'', h1, h2⟩ := ih σ1 _ (by omega) g2
      refine ⟨σ'', fun {o} hh => b56_54 ?_, h2⟩
      rw [if_pos (by omega), show ((6 - (d + 1) : Nat) : Int) + 1 = ((6 - d : Nat) : Int) by omega]
      exact ⟨_, g1, by omega, h1 hh⟩
  obtain ⟨s4, g1, g2⟩ := L2 6 s3 _ (by omega) e2
  have n653 : ∀ c k, 616 ≤ c → c ≤ 654 → s4 c k = σ c k := fun c k y1 y2 => g2.2.1 c k (by omega) (by omega) (by omega) (by omega) (by omega) (by omega)
  obtain ⟨s5, h1, h2, h3', h4, h5⟩ := d58 (σ := s4) (D := D) (by rw [n653 _ _ (by decide) (by decide)]; exact h3) hD g2.2.2.1
  exact ⟨s4, s5, b56 ⟨_, e153, a1 (fun d3 => b56_40 ⟨_, c1, _, e1, g1 ⟨_, _, h1, rfl⟩⟩)⟩, g2, h2, h3', h4, h5⟩
/-- only the trees' differences are new -/
theorem Rel_F2 {σ s : Sg} {c : Int} (H : Rel c σ) (w : WF s) (hF : RF s) (h : ∀ a x, KP a x → ¬ (616 ≤ a ∧ a ≤ 654) → ¬ (717 ≤ a ∧ a ≤ 720) → ¬ (a = 682 ∧ x = 53) → s a x = σ a x) : Rel (c + 1) s := by
  obtain ⟨h1, h2, h3, h4, h5, h6, h7, h8, h9⟩ := H
  exact ⟨w, Zl_fr (fun k => h _ _ (kp_12 rfl) (by omega) (by omega) (by omega)) h2, RT_fr (fun c k hc => h _ _ (kq_T hc) (by omega) (by omega) (by omega)) h3, RB_fr (fun c k hc => h _ _ (kq_B hc) (by omega) (by omega) (by omega)) h4, RP_fr (fun c k hc => h _ _ (kq_P hc) (by omega) (by omega) (by omega)) h5, RSt_fr (by omega) (fun c k hc => h _ _ (kq_S hc) (by omega) (by omega) (by omega)) h6, RU_fr (fun c k hc => h _ _ (kq_U hc) (by omega) (by omega) (by omega)) h7, hF, RD_fr (fun c k hc => h _ _ (kq_D hc) (by omega) (by omega) (by omega)) h9⟩
theorem o44 {σ : Sg} {c a1 a2 : Int} (H : Rel c σ) : OpR 432 374 [vA 0, vI a1, vI a2, vA 726] [vA 682, vI a1, vI a2] σ (c + 1) := by
  by_cases g1 : a1 < 0
  · exact x44_0 H g1
  by_cases g2 : 3 ≤ a1
  · exact x44_1 H g2
  by_cases g3 : a2 < 0
  · exact x44_2 H (by omega) g3
  by_cases g4 : 3 ≤ a2
  · exact x44_3 H (by omega) g4
  obtain ⟨t, rfl⟩ := Int.eq_ofNat_of_zero_le (show 0 ≤ a1 by omega)
  obtain ⟨u, rfl⟩ := Int.eq_ofNat_of_zero_le (show 0 ≤ a2 by omega)
  have hn := (rel_n H).2.2.2.1
  obtain ⟨D, hD⟩ := Int.eq_ofNat_of_zero_le hn.2.1
  have e653 : σ 653 1 = 6 * (D : Int) := by omega
  have e54 := d54_ok (σ := σ) e653
  have e232a := d232_ok (σ := σ) (i := (t : Int)) (n := 3) (by omega)
  have e232b := d232_ok (σ := σ) (i := (u : Int)) (n := 3) (by omega)
  have m0 : ∀ {s : Sg} {o : Rs}, s 682 53 = (D : Nat) → C374_35 t u none none none (if (D : Int) = 10 then 2 else 0) s o → Dd 374 [vA 682, vI t, vI u] s o := by
    intro s o h hh
    have q1 := d246 (x := (t : Int)) (n := 3) (σ := s)
    rw [if_pos (by omega)] at q1
    have q2 := d246 (x := (u : Int)) (n := 3) (σ := s)
    rw [if_pos (by omega)] at q2
    refine b374 ⟨_, _, q1, ?_⟩
    rw [if_neg (show ¬ (1 : Int) = 0 by decide)]
    refine ⟨_, _, q2, ?_⟩
    rw [if_neg (show ¬ (1 : Int) = 0 by decide), h]
    exact hh
  by_cases g5 : 10 ≤ D
  · have hA : Dd 216 [vA 0, vI t, vI u] σ (rX 2 σ) := b216 (Or.inl ⟨_, e232a, Or.inl ⟨_, e232b, Or.inr ⟨_, _, b239 ⟨_, _, e54, by rw [if_pos (by omega)]⟩, rfl⟩⟩⟩)
    refine op_x H (kx := 2) (b := 0) (by decide) (b432 (Or.inr (Or.inr ⟨_, hA, rfl⟩))) (m0 hD ?_)
    rw [if_pos (by omega)]
    refine b374_35 ⟨_, _, d245, ?_⟩
    rw [if_neg (show ¬ (2 : Int) = 0 by decide), if_pos rfl]
  obtain ⟨sm, hsm⟩ : ∃ sm : Nat → Nat → Bool, ∀ n e, n < 6 → e < 6 → (sm n e = true ↔ smP σ (616 + 2 * (6 * t + n)) (616 + 2 * (6 * u + e))) := ⟨fun n e => @decide _ (Classical.propDecidable (smP σ (616 + 2 * (6 * t + n)) (616 + 2 * (6 * u + e)))), fun n e _ _ => ⟨fun h => @of_decide_eq_true _ (Classical.propDecidable _) h, fun h => @decide_eq_true _ (Classical.propDecidable _) h⟩⟩
  obtain ⟨q1, q2, q3, q4, q5⟩ := H.2.2.2.2.2.2.2.1
  obtain ⟨s1, s, c1, c2, c3, c4, c5, c6⟩ := d56 (D := D) (t := t) (u := u) H.1 (by omega) (by omega) e653 (by omega) hsm
  have hA : Dd 432 [vA 0, vI t, vI u, vA 726] σ (rI 0 (upS s 726 ((0 : Int).toNat) (D : Nat))) := b432 (Or.inl ⟨_, _, b216 (Or.inl ⟨_, e232a, Or.inl ⟨_, e232b, Or.inl ⟨_, b239 ⟨_, _, e54, by rw [if_neg (by omega)]⟩, _, _, c1, rfl⟩⟩⟩), rfl⟩)
  have sf : ∀ a x, ¬ (333 ≤ a ∧ a ≤ 338) → ¬ (a = 343 ∧ x = 1) → ¬ a = 349 → ¬ (653 ≤ a ∧ a ≤ 657) → s a x = σ a x := fun a x y1 y2 y3 y4 => by rw [c6 a x (by omega) (by omega)]; exact c2.2.1 a x y1 y2 y3 (by omega) (by omega) (by omega)
  obtain ⟨s0, hs0⟩ : ∃ s0, s0 = upS (upS s 726 ((0 : Int).toNat) (D : Nat)) 682 0 0 := ⟨_, rfl⟩
  have s0f : ∀ a x, 658 ≤ a → ¬ a = 726 → ¬ (a = 682 ∧ x = 0) → s0 a x = σ a x := by
    intro a x y1 y2 y3
    rw [hs0]
    have : upS (upS s 726 ((0 : Int).toNat) (D : Nat)) 682 0 0 a x = upS s 726 ((0 : Int).toNat) (D : Nat) a x := by unfold upS; rw [if_neg y3]
    rw [this, up_a y2]
    exact sf a x (by omega) (by omega) (by omega) (by omega)
  have F : FL σ s0 := by
    intro f hf
    obtain ⟨r1, r2, r3⟩ := q1 f hf
    refine ⟨by rw [s0f _ _ (by omega) (by omega) (by omega)]; exact r1, fun h => ?_⟩
    have h1 : σ 652 f = 1 := by omega
    have r4 := r3 h1
    have hr := el_615 (i := (f : Int)) (by omega)
    have hc := cp_615 (i := (f : Int)) (by omega)
    rw [show ((f : Nat) : Int).toNat = f by omega] at hr hc
    have wf := H.1 _ hr.2
    obtain ⟨n, hn'⟩ := Int.eq_ofNat_of_zero_le wf.1
    refine ⟨n, by omega, hn', by rw [s0f _ _ (by decide) (by decide) (by omega)]; have := r4.1; omega, fun i hi => ?_⟩
    rw [s0f _ _ (by decide) (by decide) (by omega)]
    exact (r4.2 i (by have := r4.1; omega)).symm
  have h53 : s0 682 53 = (D : Nat) := by rw [s0f _ _ (by decide) (by decide) (by decide)]; exact hD
  obtain ⟨t1, e1, e2⟩ := l374a (D := D) (t := t) (u := u) (d5 := none) F h53 (by omega) (by omega) (by omega) 6 0 s0 (by omega) (fun _ _ _ _ _ _ => rfl) (fun n hn => absurd hn (Nat.not_lt_zero n))
  obtain ⟨t2, f1, f2⟩ := l374c (D := D) (t := t) (u := u) (sm := sm) F h53 (by omega) (by omega) (by omega) hsm 6 t1 _ (by omega) INV_0 e2
  have I2 := INV_pO (sm := sm) 6 _ (INV_0 (hA := hv σ t) (hB := hv σ u))
  obtain ⟨S, hS⟩ : ∃ S : TS, S = sN (hv σ t) (hv σ u) (fun n e => lkF σ (6 * t + n) (6 * u + e)) 6 (pO (hv σ t) (hv σ u) sm 6 (ts0 (hv σ t) (hv σ u))) := ⟨_, rfl⟩
  have IS : INV (hv σ t) (hv σ u) S := by rw [hS]; exact INV_sN 6 _ I2
  obtain ⟨t3, k1, k2⟩ : ∃ σ', (∀ d4 d5, C374_245 t u 1 d4 d5 t2 (rI (D : Nat) (upS σ' 682 53 ((D : Int) + 1)))) ∧ MT (hv σ t) (hv σ u) s0 σ' D S := by
    rw [hS]
    exact l374d F h53 (by omega) (by omega) (by omega) 6 t2 _ frc_6 I2 f2
  rw [← hS] at c2
  have hB : Dd 374 [vA 682, vI t, vI u] (upS s 726 ((0 : Int).toNat) (D : Nat)) (rI (D : Nat) (upS t3 682 53 ((D : Int) + 1))) := by
    refine m0 (by rw [up_a (by decide), sf _ _ (by decide) (by decide) (by decide) (by decide)]; exact hD) ?_
    rw [if_neg (by omega)]
    refine b374_35 ⟨_, _, d245, ?_⟩
    rw [if_pos rfl, if_neg (show ¬ (1 : Int) = 0 by decide), ← hs0]
    exact e1 (fun d4 => f1 k1 d4 none) none
  have t3c : ∀ a x, a < 682 → t3 a x = s a x := fun a x y => by rw [k2.1 a x (by omega) (by omega) (by omega) (by omega), hs0, up_a (by omega), up_a (by omega)]
  have t3m : ∀ a x, 682 ≤ a → ¬ a = 726 → ¬ (a = 682 ∧ (x = 0 ∨ x = 12 ∨ x = 13)) → ¬ (691 ≤ a ∧ a ≤ 694) → ¬ a = 721 → ¬ (a = 720 ∧ 6 * D ≤ x ∧ x < 6 * D + 6) → t3 a x = σ a x := fun a x y1 y2 y3 y4 y5 y6 => by
    rw [k2.1 a x y4 y5 y6 (by omega)]
    exact s0f a x (by omega) y2 (by omega)
  have s2c : ∀ a x, a < 682 → upS t3 682 53 ((D : Int) + 1) a x = s a x := fun a x y => by rw [up_a (by omega)]; exact t3c a x y
  have s2m : ∀ a x, 682 ≤ a → ¬ a = 726 → ¬ (a = 682 ∧ (x = 0 ∨ x = 12 ∨ x = 13 ∨ x = 53)) → ¬ (691 ≤ a ∧ a ≤ 694) → ¬ a = 721 → ¬ (a = 720 ∧ 6 * D ≤ x ∧ x < 6 * D + 6) → upS t3 682 53 ((D : Int) + 1) a x = σ a x := fun a x y1 y2 y3 y4 y5 y6 => by
    have : upS t3 682 53 ((D : Int) + 1) a x = t3 a x := by unfold upS; rw [if_neg (by omega)]
    rw [this]
    exact t3m a x y1 y2 (by omega) y4 y5 y6
  have z53 : upS t3 682 53 ((D : Int) + 1) 682 53 = (D : Int) + 1 := up_s
  have z720 : ∀ n, n < 6 → upS t3 682 53 ((D : Int) + 1) 720 (6 * D + n) = S.1 n := fun n hn => by rw [up_a (by decide)]; exact (k2.2 n hn).1
  have z0 : upS t3 682 53 ((D : Int) + 1) 682 0 = 0 := by rw [up_k (by omega), k2.1 _ _ (by omega) (by omega) (by omega) (by omega), hs0, up_s]
  have zv : upS t3 682 53 ((D : Int) + 1) 726 0 = (D : Nat) := by rw [up_a (by omega), k2.1 _ _ (by omega) (by omega) (by omega) (by omega), hs0, up_a (by omega)]; exact up_s
  have zt : ∀ a x, 727 ≤ a → upS t3 682 53 ((D : Int) + 1) a x = σ a x := fun a x ha => s2m a x (by omega) (by omega) (by omega) (by omega) (by omega) (by omega)
  generalize upS t3 682 53 ((D : Int) + 1) = s2 at hB s2c s2m z53 z720 z0 zv zt
  have W2 : WF s2 := by
    refine WF_row (r := 653) (σ := s1) (fun a ha hne => ?_) ?_ c2.1
    · rw [s2c a 1 (row_lt ha)]
      exact c6 a 1 hne (row_nx r653.1 ha)
    · rw [s2c _ _ (by decide), c3, r653.2.1]; omega
  have v654 : ∀ i, i < 6 * D → s2 654 i = σ 654 i := fun i hi => by rw [s2c _ _ (by omega), c4 i hi]; exact c2.2.1 _ _ (by omega) (by omega) (by omega) (by omega) (by omega) (by omega)
  have v654' : ∀ n, n < 6 → s2 654 (6 * D + n) = S.1 n := fun n hn => by rw [s2c _ _ (by decide), c5 n hn]; exact (c2.2.2.2 n hn).1
  have v653 : s2 653 1 = 6 * (D : Int) + 6 := by rw [s2c _ _ (by decide)]; exact c3
  have fo : ∀ a x, (616 ≤ a ∧ a ≤ 652) ∨ (717 ≤ a ∧ a ≤ 719) → s2 a x = σ a x := fun a x h => by
    by_cases y : a < 682
    · rw [s2c a x y]; exact sf a x (by omega) (by omega) (by omega) (by omega)
    · exact s2m a x (by omega) (by omega) (by omega) (by omega) (by omega) (by omega)
  refine op_fin hA hB z0 (fun _ => zv) (fun a x ha => by rw [up_a (by omega)]; exact sf a x (by omega) (by omega) (by omega) (by omega)) zt (Rel_F2 H W2 ⟨fun f hf => ?_, by omega, by omega, ⟨by omega, fun i hi => ?_⟩, fun i hi => ?_⟩ (fun a x y1 y2 y3 y4 => ?_))
  · obtain ⟨r1, r2, r3⟩ := q1 f hf
    rw [fo 717 f (by omega), fo 652 f (by omega)]
    exact ⟨r1, r2, fun hh => rowEq_fr (fo _ _ (by omega)) (fun i => fo _ _ (by omega)) (fun i => fo _ _ (by omega)) (fo _ _ (by omega)) (r3 hh)⟩
  · rw [z53] at hi
    show s2 654 i = _
    rw [Nat.zero_add]
    by_cases e : i < 6 * D
    · rw [v654 i e, s2m 720 i (by decide) (by decide) (by omega) (by decide) (by decide) (by omega)]
      have := q4.2 i (by omega)
      rw [Nat.zero_add] at this
      exact this
    · have h1 := v654' (i - 6 * D) (by omega)
      have h2 := z720 (i - 6 * D) (by omega)
      rw [show 6 * D + (i - 6 * D) = i by omega] at h1 h2
      rw [h1, h2]
  · rw [v653] at hi
    by_cases e : i < 6 * D
    · rw [v654 i e]; exact q5 i (by omega)
    · have h1 := v654' (i - 6 * D) (by omega)
      rw [show 6 * D + (i - 6 * D) = i by omega] at h1
      rw [h1]
      exact (IS (i - 6 * D) (by omega)).2
  · by_cases y : a < 682
    · rw [s2c a x y]; exact sf a x (by omega) (by omega) (by omega) (by omega)
    · exact s2m a x (by omega) (by omega) (by omega) (by omega) (by omega) (by omega)
end
-- DRAFT 98.least.lean
/-! LEAST: the walk through the table, on both sides. -/
noncomputable section
def updG (G : Nat → Int) (i : Nat) (v : Int) : Nat → Int := fun x => if x = i then v else G x
def wk (f g : Nat → Int) (ae be : Nat) : Nat → Nat → Nat → (Nat → Int) → (Nat → Int)
  | 0, _, _, G => G
  | w + 1, i, j, G => if i < ae ∧ j < be then (if f i = g j then wk f g ae be w (i + 1) (j + 1) (updG G i j) else (if lt f g ae be (ae - (i + 1)) (be - j) = lt f g ae be (ae - i) (be - j) then wk f g ae be w (i + 1) j G else wk f g ae be w i (j + 1) G)) else G
theorem wk_e {f g : Nat → Int} {ae be i j : Nat} {G : Nat → Int} (h : ¬ (i < ae ∧ j < be)) (w : Nat) : wk f g ae be w i j G = G := by
  cases w with
  | zero => rfl
  | succ w =>
    show (if i < ae ∧ j < be then _ else G) = G
    rw [if_neg h]
theorem wk_s {f g : Nat → Int} {ae be w i j : Nat} {G : Nat → Int} : wk f g ae be (w + 1) i j G = if i < ae ∧ j < be then (if f i = g j then wk f g ae be w (i + 1) (j + 1) (updG G i j) else (if lt f g ae be (ae - (i + 1)) (be - j) = lt f g ae be (ae - i) (be - j) then wk f g ae be w (i + 1) j G else wk f g ae be w i (j + 1) G)) else G := rfl
theorem l24 {f g : Nat → Int} {a ae b be n1 n2 : Nat} {d1 d3 : Option AV} {σ0 : Sg} (h1 : ae ≤ n1) (h2 : be ≤ n2) (h3 : n1 ≤ 40) (h4 : n2 ≤ 40) (w1 : wR σ0 333) (w2 : wR σ0 335) (w3 : wR σ0 337) (z1 : σ0 333 1 = (n1 : Nat)) (z2 : σ0 335 1 = (n2 : Nat)) (z3 : σ0 337 1 = (n1 : Nat)) (hf : ∀ i, i < n1 → σ0 334 i = f i) (hg : ∀ i, i < n2 → σ0 336 i = g i) (hT : ∀ i j, a ≤ i → i ≤ ae → b ≤ j → j ≤ be → σ0 349 (41 * i + j) = lt f g ae be (ae - i) (be - j)) : ∀ (w i j : Nat) (G : Nat → Int) (σ : Sg), (ae - i) + (be - j) ≤ w → a ≤ i → i ≤ ae → b ≤ j → j ≤ be → (∀ c x, ¬ c = 338 → σ c x = σ0 c x) → (∀ x, x < n1 → σ 338 x = G x) → ∃ s, C24_15 d1 ae d3 be i j σ (rV s) ∧ (∀ x, x < n1 → s 338 x = wk f g ae be w i j G x) ∧ ∀ c x, ¬ c = 338 → s c x = σ0 c x := by
  intro w
  induction w with
  | zero =>
    intro i j G σ hw ha hi hb hj hF hG
    refine ⟨σ, b24_15 ?_, hG, hF⟩
    rw [if_neg (by omega)]
  | succ w ih =>
    intro i j G σ hw ha hi hb hj hF hG
    rw [wk_s]
    by_cases c1 : i < ae
    · by_cases c2 : j < be
      · rw [if_pos ⟨c1, c2⟩]
        have e147 := d147 (σ := σ) (a := 333) (i := (i : Int)) ⟨w1.1, by rw [hF _ _ (by decide)]; exact w1.2⟩
        rw [at_on (n := n1) (f := f) (by rw [hF _ _ (by decide)]; exact z1) (fun i hi => by rw [hF _ _ (by decide)]; exact hf i hi) (by omega)] at e147
        have f147 := d147 (σ := σ) (a := 335) (i := (j : Int)) ⟨w2.1, by rw [hF _ _ (by decide)]; exact w2.2⟩
        rw [at_on (n := n2) (f := g) (by rw [hF _ _ (by decide)]; exact z2) (fun i hi => by rw [hF _ _ (by decide)]; exact hg i hi) (by omega)] at f147
        by_cases y : f i = g j
        · rw [if_pos y]
          have e148 := d148 (σ := σ) (a := 337) (i := (i : Int)) (v := (j : Int)) ⟨w3.1, by rw [hF _ _ (by decide)]; exact w3.2⟩
          rw [st_in (n := n1) (by rw [hF _ _ (by decide)]; exact z3) (by omega)] at e148
          obtain ⟨s, a1, a2, a3⟩ := ih (i + 1) (j + 1) (updG G i j) (upS σ 338 i j) (by omega) (by omega) (by omega) (by omega) (by omega) (fun c x hc => by rw [up_a hc]; exact hF c x hc) (fun x hx => by
            unfold updG
            by_cases q : x = i
            · rw [if_pos q, q, up_s]
            · rw [if_neg q, up_k q]; exact hG x hx)
          refine ⟨s, b24_15 ?_, a2, a3⟩
          rw [if_pos (by omega), if_pos (by omega)]
          refine ⟨_, _, e147, _, _, f147, ?_⟩
          rw [if_pos y, show (i : Int) + 1 = ((i + 1 : Nat) : Int) by omega, show (j : Int) + 1 = ((j + 1 : Nat) : Int) by omega]
          exact ⟨_, e148, by omega, by omega, a1⟩
        · rw [if_neg y]
          have q10 := d22 (σ := σ) (i := i + 1) (j := j) (by omega) (by omega)
          have q00 := d22 (σ := σ) (i := i) (j := j) (by omega) (by omega)
          rw [hF _ _ (by decide), hT (i + 1) j (by omega) (by omega) (by omega) (by omega), show ((i + 1 : Nat) : Int) = (i : Int) + 1 by omega] at q10
          rw [hF _ _ (by decide), hT i j (by omega) (by omega) (by omega) (by omega)] at q00
          have go : ∀ {o : Rs}, C24_15 d1 ae d3 be (if lt f g ae be (ae - (i + 1)) (be - j) = lt f g ae be (ae - i) (be - j) then ((i : Int) + 1) else (i : Int)) (if lt f g ae be (ae - (i + 1)) (be - j) = lt f g ae be (ae - i) (be - j) then (j : Int) else ((j : Int) + 1)) σ o → C24_15 d1 ae d3 be i j σ o := by
            intro o hh
            refine b24_15 ?_
            rw [if_pos (by omega), if_pos (by omega)]
            refine ⟨_, _, e147, _, _, f147, ?_⟩
            rw [if_neg y]
            exact ⟨by omega, _, _, q10, _, _, q00, fun _ => by omega, fun _ => by omega, hh⟩
          by_cases y2 : lt f g ae be (ae - (i + 1)) (be - j) = lt f g ae be (ae - i) (be - j)
          · rw [if_pos y2, if_pos y2] at go
            rw [if_pos y2]
            obtain ⟨s, a1, a2, a3⟩ := ih (i + 1) j G σ (by omega) (by omega) (by omega) hb hj hF hG
            refine ⟨s, go ?_, a2, a3⟩
            rw [show (i : Int) + 1 = ((i + 1 : Nat) : Int) by omega]
            exact a1
          · rw [if_neg y2, if_neg y2] at go
            rw [if_neg y2]
            obtain ⟨s, a1, a2, a3⟩ := ih i (j + 1) G σ (by omega) ha hi (by omega) (by omega) hF hG
            refine ⟨s, go ?_, a2, a3⟩
            rw [show (j : Int) + 1 = ((j + 1 : Nat) : Int) by omega]
            exact a1
      · rw [if_neg (fun e => c2 e.2)]
        refine ⟨σ, b24_15 ?_, hG, hF⟩
        rw [if_pos (by omega), if_neg (by omega)]
    · rw [if_neg (fun e => c1 e.1)]
      refine ⟨σ, b24_15 ?_, hG, hF⟩
      rw [if_neg (by omega)]
/-- Comparer.pairMost -/
theorem d24 {f g : Nat → Int} {a ae b be n1 n2 : Nat} {G : Nat → Int} {σ0 : Sg} (ha : a ≤ ae) (hb : b ≤ be) (h1 : ae ≤ n1) (h2 : be ≤ n2) (h3 : n1 ≤ 40) (h4 : n2 ≤ 40) (w1 : wR σ0 333) (w2 : wR σ0 335) (w3 : wR σ0 337) (z1 : σ0 333 1 = (n1 : Nat)) (z2 : σ0 335 1 = (n2 : Nat)) (z3 : σ0 337 1 = (n1 : Nat)) (hf : ∀ i, i < n1 → σ0 334 i = f i) (hg : ∀ i, i < n2 → σ0 336 i = g i) (hG : ∀ x, x < n1 → σ0 338 x = G x) : ∃ s, Dd 24 [vA 332, vI a, vI ae, vI b, vI be] σ0 (rV s) ∧ (∀ x, x < n1 → s 338 x = wk f g ae be ((ae - a) + (be - b)) a b G x) ∧ ∀ c x, ¬ c = 338 → ¬ c = 349 → s c x = σ0 c x := by
  obtain ⟨s1, c1, c2, c3⟩ := d21 ha hb h1 h2 h3 h4 w1 w2 z1 z2 hf hg
  obtain ⟨s, e1, e2, e3⟩ := l24 (d1 := some (vI a)) (d3 := some (vI b)) (σ0 := s1) (f := f) (g := g) (a := a) (b := b) h1 h2 h3 h4 ⟨w1.1, by rw [c3 _ _ (by decide)]; exact w1.2⟩ ⟨w2.1, by rw [c3 _ _ (by decide)]; exact w2.2⟩ ⟨w3.1, by rw [c3 _ _ (by decide)]; exact w3.2⟩ (by rw [c3 _ _ (by decide)]; exact z1) (by rw [c3 _ _ (by decide)]; exact z2) (by rw [c3 _ _ (by decide)]; exact z3) (fun i hi => by rw [c3 _ _ (by decide)]; exact hf i hi) (fun i hi => by rw [c3 _ _ (by decide)]; exact hg i hi) c2 ((ae - a) + (be - b)) a b G s1 (Nat.le_refl _) (Nat.le_refl _) ha (Nat.le_refl _) hb (fun _ _ _ => rfl) (fun x hx => by rw [c3 _ _ (by decide)]; exact hG x hx)
  exact ⟨s, b24 ⟨_, c1, e1⟩, e2, fun c x h h' => by rw [e3 c x h, c3 c x h']⟩
/-- the reference's least -/
theorem l266 {f g : Nat → Int} {a ae b be n1 n2 : Nat} {σ0 : Sg} (h1 : ae ≤ n1) (h2 : be ≤ n2) (h3 : n1 ≤ 64) (h4 : n2 ≤ 64) (q18 : σ0 682 18 = (ae : Nat)) (q20 : σ0 682 20 = (be : Nat)) (hf : ∀ i, i < n1 → σ0 691 i = f i) (hg : ∀ i, i < n2 → σ0 692 i = g i) (hT : ∀ i j, a ≤ i → i ≤ ae → b ≤ j → j ≤ be → σ0 694 (65 * i + j) = lt f g ae be (ae - i) (be - j)) : ∀ (w i j : Nat) (G : Nat → Int) (σ : Sg), (ae - i) + (be - j) ≤ w → a ≤ i → i ≤ ae → b ≤ j → j ≤ be → (∀ c x, ¬ c = 693 → σ c x = σ0 c x) → (∀ x, x < n1 → σ 693 x = G x) → ∃ s, C266_30 i j σ (rV s) ∧ (∀ x, x < n1 → s 693 x = wk f g ae be w i j G x) ∧ ∀ c x, ¬ c = 693 → s c x = σ0 c x := by
  intro w
  induction w with
  | zero =>
    intro i j G σ hw ha hi hb hj hF hG
    refine ⟨σ, b266_30 ?_, hG, hF⟩
    rw [hF 682 18 (by decide), q18, if_neg (by omega)]
  | succ w ih =>
    intro i j G σ hw ha hi hb hj hF hG
    rw [wk_s]
    by_cases c1 : i < ae
    · by_cases c2 : j < be
      · rw [if_pos ⟨c1, c2⟩]
        have pre : ∀ {o : Rs}, ((0 ≤ (i : Int) ∧ (i : Int) < 64) ∧ (0 ≤ (j : Int) ∧ (j : Int) < 64) ∧ (if f i = g j then (0 ≤ (i : Int) ∧ (i : Int) < 64) ∧ (-2147483648 ≤ ((i : Int) + 1) ∧ ((i : Int) + 1) ≤ 2147483647) ∧ (-2147483648 ≤ ((j : Int) + 1) ∧ ((j : Int) + 1) ≤ 2147483647) ∧ C266_30 ((i : Int) + 1) ((j : Int) + 1) (upS σ 693 i j) o else (-2147483648 ≤ ((i : Int) + 1) ∧ ((i : Int) + 1) ≤ 2147483647) ∧ (-2147483648 ≤ (65 * ((i : Int) + 1)) ∧ (65 * ((i : Int) + 1)) ≤ 2147483647) ∧ (-2147483648 ≤ ((65 * ((i : Int) + 1)) + (j : Int)) ∧ ((65 * ((i : Int) + 1)) + (j : Int)) ≤ 2147483647) ∧ (0 ≤ ((65 * ((i : Int) + 1)) + (j : Int)) ∧ ((65 * ((i : Int) + 1)) + (j : Int)) < 4225) ∧ (-2147483648 ≤ (65 * (i : Int)) ∧ (65 * (i : Int)) ≤ 2147483647) ∧ (-2147483648 ≤ ((65 * (i : Int)) + (j : Int)) ∧ ((65 * (i : Int)) + (j : Int)) ≤ 2147483647) ∧ (0 ≤ ((65 * (i : Int)) + (j : Int)) ∧ ((65 * (i : Int)) + (j : Int)) < 4225) ∧ ((lt f g ae be (ae - (i + 1)) (be - j) = lt f g ae be (ae - i) (be - j)) → -2147483648 ≤ ((i : Int) + 1) ∧ ((i : Int) + 1) ≤ 2147483647) ∧ (¬ (lt f g ae be (ae - (i + 1)) (be - j) = lt f g ae be (ae - i) (be - j)) → -2147483648 ≤ ((j : Int) + 1) ∧ ((j : Int) + 1) ≤ 2147483647) ∧ C266_30 (if lt f g ae be (ae - (i + 1)) (be - j) = lt f g ae be (ae - i) (be - j) then ((i : Int) + 1) else (i : Int)) (if lt f g ae be (ae - (i + 1)) (be - j) = lt f g ae be (ae - i) (be - j) then (j : Int) else ((j : Int) + 1)) σ o)) → C266_30 i j σ o := by
          intro o hh
          refine b266_30 ?_
          rw [hF 682 18 (by decide), q18, if_pos (by omega), hF 682 20 (by decide), q20, if_pos (by omega), show ((i : Nat) : Int).toNat = i by omega, show ((j : Nat) : Int).toNat = j by omega, hF 691 i (by decide), hF 692 j (by decide), hf i (by omega), hg j (by omega), show ((65 * ((i : Int) + 1)) + (j : Int)).toNat = 65 * (i + 1) + j by omega, show ((65 * (i : Int)) + (j : Int)).toNat = 65 * i + j by omega, hF 694 _ (by decide), hF 694 _ (by decide), hT (i + 1) j (by omega) (by omega) (by omega) (by omega), hT i j (by omega) (by omega) (by omega) (by omega)]
          exact hh
        by_cases y : f i = g j
        · simp only [if_pos y] at pre
          rw [if_pos y]
          obtain ⟨s, a1, a2, a3⟩ := ih (i + 1) (j + 1) (updG G i j) (upS σ 693 i j) (by omega) (by omega) (by omega) (by omega) (by omega) (fun c x hc => by rw [up_a hc]; exact hF c x hc) (fun x hx => by
            unfold updG
            by_cases q : x = i
            · rw [if_pos q, q, up_s]
            · rw [if_neg q, up_k q]; exact hG x hx)
          refine ⟨s, pre ⟨by omega, by omega, by omega, by omega, by omega, ?_⟩, a2, a3⟩
          rw [show (i : Int) + 1 = ((i + 1 : Nat) : Int) by omega, show (j : Int) + 1 = ((j + 1 : Nat) : Int) by omega]
          exact a1
        · simp only [if_neg y] at pre
          rw [if_neg y]
          by_cases y2 : lt f g ae be (ae - (i + 1)) (be - j) = lt f g ae be (ae - i) (be - j)
          · simp only [if_pos y2] at pre
            rw [if_pos y2]
            obtain ⟨s, a1, a2, a3⟩ := ih (i + 1) j G σ (by omega) (by omega) (by omega) hb hj hF hG
            refine ⟨s, pre ⟨by omega, by omega, by omega, by omega, by omega, by omega, by omega, by omega, by omega, fun _ => by omega, fun _ => by omega, ?_⟩, a2, a3⟩
            rw [show (i : Int) + 1 = ((i + 1 : Nat) : Int) by omega]
            exact a1
          · simp only [if_neg y2] at pre
            rw [if_neg y2]
            obtain ⟨s, a1, a2, a3⟩ := ih i (j + 1) G σ (by omega) ha hi (by omega) (by omega) hF hG
            refine ⟨s, pre ⟨by omega, by omega, by omega, by omega, by omega, by omega, by omega, by omega, by omega, fun _ => by omega, fun _ => by omega, ?_⟩, a2, a3⟩
            rw [show (j : Int) + 1 = ((j + 1 : Nat) : Int) by omega]
            exact a1
      · rw [if_neg (fun e => c2 e.2)]
        refine ⟨σ, b266_30 ?_, hG, hF⟩
        rw [hF 682 18 (by decide), q18, if_pos (by omega), hF 682 20 (by decide), q20, if_neg (by omega)]
    · rw [if_neg (fun e => c1 e.1)]
      refine ⟨σ, b266_30 ?_, hG, hF⟩
      rw [hF 682 18 (by decide), q18, if_neg (by omega)]
theorem d266 {f g : Nat → Int} {a ae b be n1 n2 : Nat} {G : Nat → Int} {σ0 : Sg} (ha : a ≤ ae) (hb : b ≤ be) (h1 : ae ≤ n1) (h2 : be ≤ n2) (h3 : n1 ≤ 64) (h4 : n2 ≤ 64) (q17 : σ0 682 17 = (a : Nat)) (q18 : σ0 682 18 = (ae : Nat)) (q19 : σ0 682 19 = (b : Nat)) (q20 : σ0 682 20 = (be : Nat)) (hf : ∀ i, i < n1 → σ0 691 i = f i) (hg : ∀ i, i < n2 → σ0 692 i = g i) (hG : ∀ x, x < n1 → σ0 693 x = G x) : ∃ s, Dd 266 [vA 682] σ0 (rV s) ∧ (∀ x, x < n1 → s 693 x = wk f g ae be ((ae - a) + (be - b)) a b G x) ∧ ∀ c x, ¬ c = 693 → ¬ c = 694 → s c x = σ0 c x := by
  obtain ⟨s1, c1, c2, c3⟩ := d265 ha hb h1 h2 h3 h4 hf hg
  have p17 : s1 682 17 = (a : Nat) := by rw [c3 _ _ (by decide)]; exact q17
  have p19 : s1 682 19 = (b : Nat) := by rw [c3 _ _ (by decide)]; exact q19
  obtain ⟨s, e1, e2, e3⟩ := l266 (σ0 := s1) (f := f) (g := g) (a := a) (b := b) h1 h2 h3 h4 (by rw [c3 _ _ (by decide)]; exact q18) (by rw [c3 _ _ (by decide)]; exact q20) (fun i hi => by rw [c3 _ _ (by decide)]; exact hf i hi) (fun i hi => by rw [c3 _ _ (by decide)]; exact hg i hi) c2 ((ae - a) + (be - b)) a b G s1 (Nat.le_refl _) (Nat.le_refl _) ha (Nat.le_refl _) hb (fun _ _ _ => rfl) (fun x hx => by rw [c3 _ _ (by decide)]; exact hG x hx)
  refine ⟨s, b266 ⟨s1, ?_, ?_⟩, e2, fun c x h h' => by rw [e3 c x h, c3 c x h']⟩
  · rw [q17, q18, q19, q20]
    exact c1
  · rw [p17, p19]
    exact e1
end
