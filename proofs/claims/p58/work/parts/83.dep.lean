/-! depends: two patches touch. -/
noncomputable section
theorem hkF_bd {f : Nat → Int} {nb na : Nat} (V : VF f nb na) : ∀ (w i j : Nat), VI f nb na i j → ∀ (h : Nat) (q : Nat × Nat × Nat × Nat), (hkF f nb na w i j)[h]? = some q → i ≤ q.1 ∧ j ≤ q.2.2.1 ∧ q.1 + q.2.1 ≤ nb ∧ q.2.2.1 + q.2.2.2 ≤ na := by
  intro w
  induction w with
  | zero => intro i j hi h q hq; simp [hkF] at hq
  | succ w ih =>
    intro i j hi h q hq
    rw [hkF_s] at hq
    by_cases h1 : i < nb ∨ j < na
    · rw [if_pos h1] at hq
      by_cases h2 : i < nb ∧ f i = (j : Int)
      · rw [if_pos h2] at hq
        have := ih _ _ (VI_s V hi h2.1 h2.2) h q hq
        omega
      · rw [if_neg h2] at hq
        obtain ⟨u1, u2, u3, u4⟩ := VI_h V hi h1 h2
        have n1 := nx_ge (f := f) (nb := nb) (i := i)
        have n2 := u1.1
        have n3 := u1.2.1
        cases h with
        | zero =>
          have hq : (i, nx f nb i - i, j, j2F f nb na i - j) = q := by simpa using hq
          rw [← hq]
          dsimp only
          omega
        | succ h =>
          rw [List.getElem?_cons_succ] at hq
          have := ih _ _ u1 h q hq
          omega
    · rw [if_neg h1] at hq
      simp at hq
theorem hks_bd {f : Nat → Int} {nb na : Nat} (V : VF f nb na) {h : Nat} {q : Nat × Nat × Nat × Nat} (hq : (hks f nb na)[h]? = some q) : q.1 + q.2.1 ≤ nb ∧ q.2.2.1 + q.2.2.2 ≤ na := (hkF_bd V _ _ _ (VI_0 V) h q hq).2.2
/-- the pieces of a patch -/
def PC (σ : Sg) (P : Nat) (l : List (Nat × Nat × Nat × Nat)) : Prop := σ (P + 9) 1 = 4 * (l.length : Nat) ∧ (∀ h : Nat, ∀ q, l[h]? = some q → σ (P + 10) (4 * h) = (q.1 : Nat) ∧ σ (P + 10) (4 * h + 1) = (q.2.1 : Nat) ∧ σ (P + 10) (4 * h + 2) = (q.2.2.1 : Nat) ∧ σ (P + 10) (4 * h + 3) = (q.2.2.2 : Nat)) ∧ ∀ h : Nat, ∀ q, l[h]? = some q → q.1 + q.2.1 ≤ 100 ∧ q.2.2.1 + q.2.2.2 ≤ 100
theorem PC_of {σ : Sg} {P nb na : Nat} (N : NP σ P nb na) (hb : nb ≤ 100) (ha : na ≤ 100) : PC σ P (hks (σ (P + 6)) nb na) := by
  obtain ⟨n1, n3, n5, n7, V, K, C1, C2⟩ := N
  exact ⟨C1, C2, fun h q hq => by have := hks_bd V hq; omega⟩
theorem pc_at {σ : Sg} {P : Nat} {l : List (Nat × Nat × Nat × Nat)} (hP : isPatch P = true) (w : wR σ (P + 9)) (C : PC σ P l) {h : Nat} {q : Nat × Nat × Nat × Nat} (hq : l[h]? = some q) : Dd 100 [vA P, vI h] σ (rI (q.1 : Nat) σ) ∧ Dd 102 [vA P, vI h] σ (rI ((q.1 + q.2.1 : Nat) : Int) σ) ∧ Dd 103 [vA P, vI h] σ (rI (q.2.2.1 : Nat) σ) ∧ Dd 105 [vA P, vI h] σ (rI ((q.2.2.1 + q.2.2.2 : Nat) : Int) σ) := by
  obtain ⟨c1, c2, c3⟩ := C
  obtain ⟨v0, v1, v2, v3⟩ := c2 h q hq
  obtain ⟨b1, b2⟩ := c3 h q hq
  have hl := (List.getElem?_eq_some_iff.mp hq).1
  have hc := cap_le w.1
  have w2 := w.2.2
  have at' : ∀ (i : Int) (n : Nat), i = ((4 * h + n : Nat) : Int) → n < 4 → atS σ (P + 9) i = σ (P + 10) (4 * h + n) := by
    intro i n hi hn
    unfold atS
    rw [if_pos (by omega), hi, show ((4 * h + n : Nat) : Int).toNat = 4 * h + n by omega]
  have e0 := d147 (i := 4 * (h : Int) + 0) w
  have e1 := d147 (i := 4 * (h : Int) + 1) w
  have e2 := d147 (i := 4 * (h : Int) + 2) w
  have e3 := d147 (i := 4 * (h : Int) + 3) w
  rw [show atS σ (P + 9) (4 * (h : Int) + 0) = σ (P + 10) (4 * h) from at' _ 0 (by omega) (by omega), v0] at e0
  rw [at' _ 1 (by omega) (by omega), v1] at e1
  rw [at' _ 2 (by omega) (by omega), v2] at e2
  rw [at' _ 3 (by omega) (by omega), v3] at e3
  refine ⟨b100 hP ⟨by omega, by omega, _, _, e0, rfl⟩, b102 hP ⟨by omega, by omega, _, _, e0, by omega, by omega, _, _, e1, by omega, ?_⟩, b103 hP ⟨by omega, by omega, _, _, e2, rfl⟩, b105 hP ⟨by omega, by omega, _, _, e2, by omega, by omega, _, _, e3, by omega, ?_⟩⟩
  · rw [show ((q.1 + q.2.1 : Nat) : Int) = (q.1 : Nat) + (q.2.1 : Nat) by omega]
  · rw [show ((q.2.2.1 + q.2.2.2 : Nat) : Int) = (q.2.2.1 : Nat) + (q.2.2.2 : Nat) by omega]
/-- a hunk of the first and one of the second lie in one place between -/
def T2 (q r : Nat × Nat × Nat × Nat) : Prop := q.2.2.1 ≤ r.1 + r.2.1 ∧ r.1 ≤ q.2.2.1 + q.2.2.2
def TCH (l1 l2 : List (Nat × Nat × Nat × Nat)) : Prop := ∃ (h : Nat) (q : Nat × Nat × Nat × Nat) (g : Nat) (r : Nat × Nat × Nat × Nat), l1[h]? = some q ∧ l2[g]? = some r ∧ T2 q r
theorem d98' {σ : Sg} {P : Nat} {l : List (Nat × Nat × Nat × Nat)} (hP : isPatch P = true) (C : PC σ P l) : Dd 98 [vA P] σ (rI (l.length : Nat) σ) := d98 hP C.1
theorem l6b {σ : Sg} {P Q h : Nat} {q : Nat × Nat × Nat × Nat} {l1 l2 : List (Nat × Nat × Nat × Nat)} (hP : isPatch P = true) (hQ : isPatch Q = true) (wP : wR σ (P + 9)) (wQ : wR σ (Q + 9)) (C1 : PC σ P l1) (C2 : PC σ Q l2) (hq : l1[h]? = some q) {d0 : Option AV} : ∀ (d g : Nat), g + d = l2.length → ((∃ (g' : Nat) (r : Nat × Nat × Nat × Nat), g ≤ g' ∧ l2[g']? = some r ∧ T2 q r) → C6_13 d0 P Q h g σ (rI 1 σ)) ∧ (¬ (∃ (g' : Nat) (r : Nat × Nat × Nat × Nat), g ≤ g' ∧ l2[g']? = some r ∧ T2 q r) → ∀ {o : Rs}, (∀ d4, C6_2 d0 P Q ((h + 1 : Nat) : Int) d4 σ o) → C6_13 d0 P Q h g σ o) := by
  have hlh := (List.getElem?_eq_some_iff.mp hq).1
  have hc := cap_le wP.1
  have hc2 := cap_le wQ.1
  have z1 := C1.1
  have z2 := C2.1
  have w2 := wP.2.2
  have w3 := wQ.2.2
  intro d
  induction d with
  | zero =>
    intro g hg
    refine ⟨fun ⟨g', r, h1, h2, h3⟩ => ?_, fun _ {o} hh => ?_⟩
    · have := (List.getElem?_eq_some_iff.mp h2).1
      omega
    · refine b6_13 hQ hP ⟨_, _, d98' hQ C2, ?_⟩
      rw [if_neg (by omega), show (h : Int) + 1 = ((h + 1 : Nat) : Int) by omega]
      exact ⟨by omega, hh _⟩
  | succ d ih =>
    intro g hg
    obtain ⟨i1, i2⟩ := ih (g + 1) (by omega)
    obtain ⟨r, hr⟩ : ∃ r, l2[g]? = some r := ⟨_, List.getElem?_eq_getElem (by omega)⟩
    obtain ⟨-, -, a3, a5⟩ := pc_at hP wP C1 hq
    obtain ⟨b0, b2, -, -⟩ := pc_at hQ wQ C2 hr
    have nxt : ∀ {o : Rs}, ¬ T2 q r → C6_13 d0 P Q h ((g + 1 : Nat) : Int) σ o → C6_13 d0 P Q h g σ o := by
      intro o ht hh
      have h52 : C6_52 d0 P Q h g σ o := b6_52 ⟨by omega, by rw [show (g : Int) + 1 = ((g + 1 : Nat) : Int) by omega]; exact hh⟩
      refine b6_13 hQ hP ⟨_, _, d98' hQ C2, ?_⟩
      rw [if_pos (by omega)]
      refine ⟨_, _, a3, _, _, b2, ?_⟩
      by_cases y : q.2.2.1 ≤ r.1 + r.2.1
      · rw [if_pos (by omega)]
        refine ⟨_, _, b0, _, _, a5, ?_⟩
        rw [if_neg (fun e => ht ⟨y, by omega⟩)]
        exact h52
      · rw [if_neg (by omega)]
        exact h52
    by_cases ht : T2 q r
    · refine ⟨fun _ => ?_, fun hn => absurd ⟨g, r, Nat.le_refl g, hr, ht⟩ hn⟩
      refine b6_13 hQ hP ⟨_, _, d98' hQ C2, ?_⟩
      have t1 := ht.1
      have t2 := ht.2
      rw [if_pos (by omega)]
      refine ⟨_, _, a3, _, _, b2, ?_⟩
      rw [if_pos (by omega)]
      refine ⟨_, _, b0, _, _, a5, ?_⟩
      rw [if_pos (by omega)]
    · refine ⟨fun ⟨g', r', h1, h2, h3⟩ => nxt ht (i1 ⟨g', r', ?_, h2, h3⟩), fun hn {o} hh => nxt ht (i2 (fun ⟨g', r', h1, h2, h3⟩ => hn ⟨g', r', by omega, h2, h3⟩) hh)⟩
      by_cases e : g' = g
      · rw [e, hr] at h2
        cases h2
        exact absurd h3 ht
      · omega
theorem l6a {σ : Sg} {P Q : Nat} {l1 l2 : List (Nat × Nat × Nat × Nat)} (hP : isPatch P = true) (hQ : isPatch Q = true) (wP : wR σ (P + 9)) (wQ : wR σ (Q + 9)) (C1 : PC σ P l1) (C2 : PC σ Q l2) {d0 : Option AV} : ∀ (d h : Nat) (d4 : Option AV), h + d = l1.length → ((∃ (h' : Nat) (q : Nat × Nat × Nat × Nat) (g : Nat) (r : Nat × Nat × Nat × Nat), h ≤ h' ∧ l1[h']? = some q ∧ l2[g]? = some r ∧ T2 q r) → C6_2 d0 P Q h d4 σ (rI 1 σ)) ∧ (¬ (∃ (h' : Nat) (q : Nat × Nat × Nat × Nat) (g : Nat) (r : Nat × Nat × Nat × Nat), h ≤ h' ∧ l1[h']? = some q ∧ l2[g]? = some r ∧ T2 q r) → C6_2 d0 P Q h d4 σ (rI 0 σ)) := by
  intro d
  induction d with
  | zero =>
    intro h d4 hh
    refine ⟨fun ⟨h', q, g, r, h1, h2, h3, h4⟩ => ?_, fun _ => ?_⟩
    · have := (List.getElem?_eq_some_iff.mp h2).1
      omega
    · refine b6_2 hP ⟨_, _, d98' hP C1, ?_⟩
      rw [if_neg (by omega)]
  | succ d ih =>
    intro h d4 hh
    obtain ⟨q, hq⟩ : ∃ q, l1[h]? = some q := ⟨_, List.getElem?_eq_getElem (by omega)⟩
    obtain ⟨j1, j2⟩ := l6b (d0 := d0) hP hQ wP wQ C1 C2 hq l2.length 0 (by omega)
    have go : ∀ {o : Rs}, C6_13 d0 P Q h ((0 : Nat) : Int) σ o → C6_2 d0 P Q h d4 σ o := by
      intro o hx
      refine b6_2 hP ⟨_, _, d98' hP C1, ?_⟩
      rw [if_pos (by omega)]
      exact hx
    by_cases ht : ∃ g' r, 0 ≤ g' ∧ l2[g']? = some r ∧ T2 q r
    · refine ⟨fun _ => go (j1 ht), fun hn => ?_⟩
      obtain ⟨g, r, -, h2, h3⟩ := ht
      exact absurd ⟨h, q, g, r, Nat.le_refl h, hq, h2, h3⟩ hn
    · refine ⟨fun ⟨h', q', g, r, h1, h2, h3, h4⟩ => go (j2 ht (fun d4 => (ih (h + 1) d4 (by omega)).1 ⟨h', q', g, r, ?_, h2, h3, h4⟩)), fun hn => go (j2 ht (fun d4 => (ih (h + 1) d4 (by omega)).2 (fun ⟨h', q', g, r, h1, h2, h3, h4⟩ => hn ⟨h', q', g, r, by omega, h2, h3, h4⟩)))⟩
      by_cases e : h' = h
      · rw [e, hq] at h2
        cases h2
        exact absurd ⟨g, r, Nat.zero_le _, h3, h4⟩ ht
      · omega
/-- Combiner.doTouch -/
theorem d6 {σ : Sg} {P Q : Nat} {l1 l2 : List (Nat × Nat × Nat × Nat)} (hP : isPatch P = true) (hQ : isPatch Q = true) (wP : wR σ (P + 9)) (wQ : wR σ (Q + 9)) (C1 : PC σ P l1) (C2 : PC σ Q l2) : (TCH l1 l2 → Dd 6 [vA 350, vA P, vA Q] σ (rI 1 σ)) ∧ (¬ TCH l1 l2 → Dd 6 [vA 350, vA P, vA Q] σ (rI 0 σ)) := by
  obtain ⟨a, b⟩ := l6a (d0 := some (vA 350)) hP hQ wP wQ C1 C2 l1.length 0 none (by omega)
  exact ⟨fun ⟨h, q, g, r, h1, h2, h3⟩ => b6 (a ⟨h, q, g, r, Nat.zero_le _, h1, h2, h3⟩), fun hn => b6 (b (fun ⟨h, q, g, r, _, h1, h2, h3⟩ => hn ⟨h, q, g, r, h1, h2, h3⟩))⟩
/-- the reference's dependsOn -/
theorem l292b {σ : Sg} {h : Nat} {q : Nat × Nat × Nat × Nat} {l1 l2 : List (Nat × Nat × Nat × Nat)} (H1 : HK σ 0 0 l1) (H2 : HK σ 1 0 l2) (b1 : ∀ h : Nat, ∀ q, l1[h]? = some q → q.1 + q.2.1 ≤ 100 ∧ q.2.2.1 + q.2.2.2 ≤ 100) (b2 : ∀ h : Nat, ∀ q, l2[h]? = some q → q.1 + q.2.1 ≤ 100 ∧ q.2.2.1 + q.2.2.2 ≤ 100) (n1 : l1.length ≤ 120) (n2 : l2.length ≤ 120) (hq : l1[h]? = some q) {d1 d2 : Option AV} {z : Int} {o : Rs} : ∀ (d g : Nat) (y : Int), g + d = l2.length → (y = 0 ∨ y = 1) → (z = 0 ∨ z = 1) → (z = 1 ↔ (y = 1 ∨ ∃ (g' : Nat) (r : Nat × Nat × Nat × Nat), g ≤ g' ∧ l2[g']? = some r ∧ T2 q r)) → (∀ d7, C292_21 d1 d2 (l1.length : Nat) (l2.length : Nat) z ((h + 1 : Nat) : Int) d7 σ o) → C292_32 d1 d2 (l1.length : Nat) (l2.length : Nat) y h ((128 + g : Nat) : Int) σ o := by
  have hlh := (List.getElem?_eq_some_iff.mp hq).1
  intro d
  induction d with
  | zero =>
    intro g y hg hy hz hi hh
    have ey : y = z := by
      have hno : ¬ ∃ (g' : Nat) (r : Nat × Nat × Nat × Nat), g ≤ g' ∧ l2[g']? = some r ∧ T2 q r := by
        rintro ⟨g', r, h1, h2, h3⟩
        have := (List.getElem?_eq_some_iff.mp h2).1
        omega
      rcases hy with hy | hy
      · rcases hz with hz | hz
        · omega
        · rcases hi.mp hz with e | e
          · omega
          · exact absurd e hno
      · have := hi.mpr (Or.inl hy)
        omega
    refine b292_32 ⟨by omega, ?_⟩
    rw [if_neg (by omega), ey, show (h : Int) + 1 = ((h + 1 : Nat) : Int) by omega]
    exact ⟨by omega, hh _⟩
  | succ d ih =>
    intro g y hg hy hz hi hh
    obtain ⟨r, hr⟩ : ∃ r, l2[g]? = some r := ⟨_, List.getElem?_eq_getElem (by omega)⟩
    obtain ⟨v0, v1, v2, v3⟩ := H1 h q hq
    obtain ⟨u0, u1, u2, u3⟩ := H2 g r hr
    rw [show 128 * 0 + (0 + h) = h by omega] at v0 v1 v2 v3
    rw [show 128 * 1 + (0 + g) = 128 + g by omega] at u0 u1 u2 u3
    have bq := b1 h q hq
    have br := b2 g r hr
    have nxt : ∀ y1 : Int, C292_32 d1 d2 (l1.length : Nat) (l2.length : Nat) y1 h ((128 + (g + 1) : Nat) : Int) σ o → ∀ d5, C292_103 d1 d2 (l1.length : Nat) (l2.length : Nat) d5 h ((128 + g : Nat) : Int) y1 σ o := by
      intro y1 hx d5
      refine b292_103 ⟨by omega, ?_⟩
      rw [show ((128 + g : Nat) : Int) + 1 = ((128 + (g + 1) : Nat) : Int) by omega]
      exact hx
    have sp : (∃ (g' : Nat) (r : Nat × Nat × Nat × Nat), g ≤ g' ∧ l2[g']? = some r ∧ T2 q r) ↔ (T2 q r ∨ ∃ (g' : Nat) (r : Nat × Nat × Nat × Nat), g + 1 ≤ g' ∧ l2[g']? = some r ∧ T2 q r) := by
      refine ⟨fun ⟨g', r', h1, h2, h3⟩ => ?_, fun e => ?_⟩
      · by_cases e : g' = g
        · rw [e, hr] at h2
          cases h2
          exact Or.inl h3
        · exact Or.inr ⟨g', r', by omega, h2, h3⟩
      · rcases e with e | ⟨g', r', h1, h2, h3⟩
        · exact ⟨g, r, Nat.le_refl g, hr, e⟩
        · exact ⟨g', r', by omega, h2, h3⟩
    refine b292_32 ⟨by omega, ?_⟩
    rw [if_pos (by omega)]
    by_cases hy0 : y = 0
    · rw [if_pos hy0, show ((h : Nat) : Int).toNat = h by omega, show ((128 + g : Nat) : Int).toNat = 128 + g by omega, v2, v3, u0, u1]
      refine ⟨by omega, by omega, by omega, by omega, by omega, by omega, by omega, by omega, _, _, b291 rfl, ?_⟩
      by_cases ht : T2 q r
      · have t1 : ((q.2.2.1 : Nat) : Int) ≤ ((r.1 : Nat) : Int) + ((r.2.1 : Nat) : Int) := Int.ofNat_le.mpr ht.1
        have t2 : ((r.1 : Nat) : Int) ≤ ((q.2.2.1 : Nat) : Int) + ((q.2.2.2 : Nat) : Int) := Int.ofNat_le.mpr ht.2
        rw [if_pos t1, if_pos t2, if_neg (show ¬ (1 : Int) = 0 by decide)]
        refine b292_98 (nxt 1 (ih (g + 1) 1 (by omega) (Or.inr rfl) hz ?_ hh) _)
        rw [hi]
        exact ⟨fun _ => Or.inl rfl, fun _ => Or.inr (sp.mpr (Or.inl ht))⟩
      · have e0 : (if ((q.2.2.1 : Nat) : Int) ≤ (r.1 : Nat) + (r.2.1 : Nat) then (if ((r.1 : Nat) : Int) ≤ (q.2.2.1 : Nat) + (q.2.2.2 : Nat) then (1 : Int) else 0) else 0) = 0 := by
          by_cases y1 : q.2.2.1 ≤ r.1 + r.2.1
          · rw [if_pos (by omega), if_neg (fun e => ht ⟨y1, by omega⟩)]
          · rw [if_neg (by omega)]
        rw [e0, if_pos rfl]
        refine nxt 0 (ih (g + 1) 0 (by omega) (Or.inl rfl) hz ?_ hh) _
        rw [hi, sp]
        refine ⟨fun e => ?_, fun e => ?_⟩
        · rcases e with e | e | e
          · omega
          · exact absurd e ht
          · exact Or.inr e
        · rcases e with e | e
          · exact absurd e (by decide)
          · exact Or.inr (Or.inr e)
    · rw [if_neg hy0]
      have hy1 : y = 1 := by clear sp hi ih; omega
      refine b292_98 (nxt 1 (ih (g + 1) 1 (by omega) (Or.inr rfl) hz ?_ hh) _)
      rw [hi]
      exact ⟨fun _ => Or.inl rfl, fun _ => Or.inl hy1⟩
theorem l292a {σ : Sg} {l1 l2 : List (Nat × Nat × Nat × Nat)} (H1 : HK σ 0 0 l1) (H2 : HK σ 1 0 l2) (b1 : ∀ h : Nat, ∀ q, l1[h]? = some q → q.1 + q.2.1 ≤ 100 ∧ q.2.2.1 + q.2.2.2 ≤ 100) (b2 : ∀ h : Nat, ∀ q, l2[h]? = some q → q.1 + q.2.1 ≤ 100 ∧ q.2.2.1 + q.2.2.2 ≤ 100) (n1 : l1.length ≤ 120) (n2 : l2.length ≤ 120) {d1 d2 : Option AV} {z : Int} (hz : z = 0 ∨ z = 1) : ∀ (d h : Nat) (y : Int) (d7 : Option AV), h + d = l1.length → (y = 0 ∨ y = 1) → (z = 1 ↔ (y = 1 ∨ ∃ (h' : Nat) (q : Nat × Nat × Nat × Nat) (g : Nat) (r : Nat × Nat × Nat × Nat), h ≤ h' ∧ l1[h']? = some q ∧ l2[g]? = some r ∧ T2 q r)) → C292_21 d1 d2 (l1.length : Nat) (l2.length : Nat) y h d7 σ (rI z σ) := by
  intro d
  induction d with
  | zero =>
    intro h y d7 hh hy hi
    have ey : y = z := by
      have hno : ¬ ∃ (h' : Nat) (q : Nat × Nat × Nat × Nat) (g : Nat) (r : Nat × Nat × Nat × Nat), h ≤ h' ∧ l1[h']? = some q ∧ l2[g]? = some r ∧ T2 q r := by
        rintro ⟨h', q, g, r, h1, h2, h3, h4⟩
        have := (List.getElem?_eq_some_iff.mp h2).1
        omega
      rcases hy with hy | hy
      · rcases hz with hz | hz
        · omega
        · rcases hi.mp hz with e | e
          · omega
          · exact absurd e hno
      · have := hi.mpr (Or.inl hy)
        omega
    refine b292_21 ?_
    rw [if_neg (by omega), ey]
    exact ⟨hz, rfl⟩
  | succ d ih =>
    intro h y d7 hh hy hi
    obtain ⟨q, hq⟩ : ∃ q, l1[h]? = some q := ⟨_, List.getElem?_eq_getElem (by omega)⟩
    have sp : (∃ (h' : Nat) (q : Nat × Nat × Nat × Nat) (g : Nat) (r : Nat × Nat × Nat × Nat), h ≤ h' ∧ l1[h']? = some q ∧ l2[g]? = some r ∧ T2 q r) ↔ ((∃ g' r, 0 ≤ g' ∧ l2[g']? = some r ∧ T2 q r) ∨ ∃ (h' : Nat) (q : Nat × Nat × Nat × Nat) (g : Nat) (r : Nat × Nat × Nat × Nat), h + 1 ≤ h' ∧ l1[h']? = some q ∧ l2[g]? = some r ∧ T2 q r) := by
      refine ⟨fun ⟨h', q', g, r, h1, h2, h3, h4⟩ => ?_, fun e => ?_⟩
      · by_cases e : h' = h
        · rw [e, hq] at h2
          cases h2
          exact Or.inl ⟨g, r, Nat.zero_le _, h3, h4⟩
        · exact Or.inr ⟨h', q', g, r, by omega, h2, h3, h4⟩
      · rcases e with ⟨g, r, _, h3, h4⟩ | ⟨h', q', g, r, h1, h2, h3, h4⟩
        · exact ⟨h, q, g, r, Nat.le_refl h, hq, h3, h4⟩
        · exact ⟨h', q', g, r, by omega, h2, h3, h4⟩
    refine b292_21 ?_
    rw [if_pos (by omega)]
    obtain ⟨z1, hz1, e1⟩ : ∃ z1 : Int, (z1 = 0 ∨ z1 = 1) ∧ (z1 = 1 ↔ (y = 1 ∨ ∃ g' r, 0 ≤ g' ∧ l2[g']? = some r ∧ T2 q r)) := by
      by_cases e : (y = 1 ∨ ∃ g' r, 0 ≤ g' ∧ l2[g']? = some r ∧ T2 q r)
      · exact ⟨1, Or.inr rfl, ⟨fun _ => e, fun _ => rfl⟩⟩
      · exact ⟨0, Or.inl rfl, ⟨fun h => absurd h (by decide), fun h => absurd h e⟩⟩
    refine l292b (z := z1) H1 H2 b1 b2 n1 n2 hq l2.length 0 y (by omega) hy hz1 e1 (fun d7 => ih (h + 1) z1 d7 (by omega) hz1 ?_)
    rw [hi, e1, sp]
    exact or_assoc.symm
theorem d292 {s t nb na nb' na' : Nat} {O N F O' N' F' : Nat → Int} {σ : Sg} (hs : s < 44) (ht : t < 44) (h1 : nb ≤ 100) (h2 : na ≤ 100) (h3 : nb' ≤ 100) (h4 : na' ≤ 100) (V : VF F nb na) (V' : VF F' nb' na') (S : Slot σ s nb na O N F) (S' : Slot σ t nb' na' O' N' F') : ∃ z σ', Dd 292 [vA 682, vI s, vI t] σ (rI z σ') ∧ (z = 0 ∨ z = 1) ∧ (z = 1 ↔ TCH (hks F nb na) (hks F' nb' na')) ∧ ∀ c k, ¬ (700 ≤ c ∧ c ≤ 704) → σ' c k = σ c k := by
  obtain ⟨s1, a1, a2, a3, a4, a5⟩ := d280 (wh := 0) hs (by decide) h1 h2 V S.1 S.2.1 S.2.2.2.2
  obtain ⟨s2, c1, c2, c3, c4, c5⟩ := d280 (wh := 1) (σ := s1) ht (by decide) h3 h4 V' (by rw [a5 _ _ (by omega) (by omega)]; exact S'.1) (by rw [a5 _ _ (by omega) (by omega)]; exact S'.2.1) (fun i hi => by rw [a5 _ _ (by omega) (by omega)]; exact S'.2.2.2.2 i hi)
  have H1 : HK s2 0 0 (hks F nb na) := by
    intro h q hq
    have hl := (List.getElem?_eq_some_iff.mp hq).1
    have := a2 h q hq
    rw [c5 _ _ (by omega) (by omega), c5 _ _ (by omega) (by omega), c5 _ _ (by omega) (by omega), c5 _ _ (by omega) (by omega)]
    exact this
  obtain ⟨z, hz, e⟩ : ∃ z : Int, (z = 0 ∨ z = 1) ∧ (z = 1 ↔ TCH (hks F nb na) (hks F' nb' na')) := by
    by_cases e : TCH (hks F nb na) (hks F' nb' na')
    · exact ⟨1, Or.inr rfl, ⟨fun _ => e, fun _ => rfl⟩⟩
    · exact ⟨0, Or.inl rfl, ⟨fun h => absurd h (by decide), fun h => absurd h e⟩⟩
  have L := l292a (z := z) (d1 := some (vI s)) (d2 := some (vI t)) H1 c2 (fun h q hq => by have := hks_bd V hq; omega) (fun h q hq => by have := hks_bd V' hq; omega) (by omega) (by omega) hz (hks F nb na).length 0 0 none (by omega) (Or.inl rfl) (by
    rw [e]
    exact ⟨fun ⟨h, q, g, r, y1, y2, y3⟩ => Or.inr ⟨h, q, g, r, Nat.zero_le _, y1, y2, y3⟩, fun y => by
      rcases y with y | ⟨h, q, g, r, _, y1, y2, y3⟩
      · exact absurd y (by decide)
      · exact ⟨h, q, g, r, y1, y2, y3⟩⟩)
  exact ⟨z, s2, b292 ⟨_, _, a1, _, _, c1, L⟩, hz, e, fun c k h => by rw [c5 c k (by omega) (by omega), a5 c k (by omega) (by omega)]⟩
/-- the second was made of what the first made -/
theorem l290 {s t nb na nb' na' : Nat} {O N F O' N' F' : Nat → Int} {σ : Sg} (hs : s < 44) (ht : t < 44) (h2 : na ≤ 100) (S : Slot σ s nb na O N F) (S' : Slot σ t nb' na' O' N' F') (he : na = nb') : ∀ (d i : Nat), i + d = na → ((∀ k, i ≤ k → k < na → N k = O' k) → C290_24 s t 1 i σ (rI 1 σ)) ∧ (¬ (∀ k, i ≤ k → k < na → N k = O' k) → C290_24 s t 1 i σ (rI 0 σ)) := by
  intro d
  induction d with
  | zero =>
    intro i hi
    refine ⟨fun _ => b290_24 ⟨by omega, ?_⟩, fun h => absurd (fun k h1 h2 => by omega) h⟩
    rw [show ((s : Nat) : Int).toNat = s by omega, S.2.1, if_neg (by omega)]
    exact ⟨Or.inr rfl, rfl⟩
  | succ d ih =>
    intro i hi
    obtain ⟨j1, j2⟩ := ih (i + 1) (by omega)
    have e1 : ((100 * (s : Int)) + (i : Int)).toNat = 100 * s + i := by omega
    have e2 : ((100 * (t : Int)) + (i : Int)).toNat = 100 * t + i := by omega
    have go : ∀ {o : Rs} (y : Int), y = (if N i = O' i then 1 else 0) → C290_24 s t y ((i + 1 : Nat) : Int) σ o → C290_24 s t 1 i σ o := by
      intro o y hy hh
      refine b290_24 ⟨by omega, ?_⟩
      rw [show ((s : Nat) : Int).toNat = s by omega, S.2.1, if_pos (by omega), if_neg (by decide), e1, e2, S.2.2.2.1 i (by omega), S'.2.2.1 i (by omega), ← hy]
      refine ⟨by omega, by omega, by omega, by omega, by omega, by omega, b290_71 ⟨by omega, ?_⟩⟩
      rw [show (i : Int) + 1 = ((i + 1 : Nat) : Int) by omega]
      exact hh
    have z0 : C290_24 s t 0 ((i + 1 : Nat) : Int) σ (rI 0 σ) := by
      refine b290_24 ⟨by omega, ?_⟩
      by_cases y : ((i + 1 : Nat) : Int) < σ 689 ((s : Int)).toNat
      · rw [if_pos y, if_pos rfl]; exact ⟨Or.inl rfl, rfl⟩
      · rw [if_neg y]; exact ⟨Or.inl rfl, rfl⟩
    by_cases hx : N i = O' i
    · have hx1 : (1 : Int) = (if N i = O' i then 1 else 0) := by rw [if_pos hx]
      refine ⟨fun h => go 1 hx1 (j1 (fun k h1 h2 => h k (by omega) h2)), fun h => go 1 hx1 (j2 (fun g => h (fun k h1 h2 => ?_)))⟩
      by_cases e : k = i
      · rw [e]; exact hx
      · exact g k (by omega) h2
    · have hx0 : (0 : Int) = (if N i = O' i then 1 else 0) := by rw [if_neg hx]
      exact ⟨fun h => absurd (h i (Nat.le_refl i) (by omega)) hx, fun _ => go 0 hx0 z0⟩
def FLW (nb' na : Nat) (N O' : Nat → Int) : Prop := na = nb' ∧ ∀ k, k < na → N k = O' k
theorem d290 {s t nb na nb' na' : Nat} {O N F O' N' F' : Nat → Int} {σ : Sg} (hs : s < 44) (ht : t < 44) (h2 : na ≤ 100) (S : Slot σ s nb na O N F) (S' : Slot σ t nb' na' O' N' F') : (FLW nb' na N O' → Dd 290 [vA 682, vI s, vI t] σ (rI 1 σ)) ∧ (¬ FLW nb' na N O' → Dd 290 [vA 682, vI s, vI t] σ (rI 0 σ)) := by
  have go : ∀ {o : Rs}, C290_24 s t (if na = nb' then 1 else 0) ((0 : Nat) : Int) σ o → Dd 290 [vA 682, vI s, vI t] σ o := by
    intro o hh
    refine b290 ⟨by omega, by omega, b290_20 ?_⟩
    rw [show ((s : Nat) : Int).toNat = s by omega, show ((t : Nat) : Int).toNat = t by omega, S.2.1, S'.1]
    by_cases e : na = nb'
    · rw [if_pos (by omega)]
      rw [if_pos e] at hh
      exact hh
    · rw [if_neg (by omega)]
      rw [if_neg e] at hh
      exact hh
  by_cases e : na = nb'
  · obtain ⟨a, b⟩ := l290 hs ht h2 S S' e na 0 (by omega)
    rw [if_pos e] at go
    exact ⟨fun h => go (a (fun k _ hk => h.2 k hk)), fun h => go (b (fun g => h ⟨e, fun k hk => g k (Nat.zero_le k) hk⟩))⟩
  · rw [if_neg e] at go
    refine ⟨fun h => absurd h.1 e, fun _ => go (b290_24 ⟨by omega, ?_⟩)⟩
    by_cases y : ((0 : Nat) : Int) < σ 689 ((s : Int)).toNat
    · rw [if_pos y, if_pos rfl]; exact ⟨Or.inl rfl, rfl⟩
    · rw [if_neg y]; exact ⟨Or.inl rfl, rfl⟩
theorem d237 {σ : Sg} {P Q nb na nb' na' : Nat} (hP : isPatch P = true) (hQ : isPatch Q = true) (w : WF σ) (N : NP σ P nb na) (N' : NP σ Q nb' na') : (FLW nb' na (σ (P + 4)) (σ (Q + 2)) → Dd 237 [vA 0, vA P, vA Q] σ (rV σ)) ∧ (¬ FLW nb' na (σ (P + 4)) (σ (Q + 2)) → Dd 237 [vA 0, vA P, vA Q] σ (rX 2 σ)) := by
  have n3 := N.2.1
  have n1 := N'.1
  refine ⟨fun h => b237 hQ hP ⟨_, _, d156_t (WF_w w (pat_1 hQ)) (WF_w w (pat_3 hP)) ⟨by have := h.1; omega, fun k hk => (h.2 k (by have := h.1; omega)).symm⟩, ?_⟩, fun h => b237 hQ hP ⟨_, _, d156_f (WF_w w (pat_1 hQ)) (WF_w w (pat_3 hP)) (fun g => h ⟨by have := g.1; omega, fun k hk => (g.2 k (by have := g.1; omega)).symm⟩), ?_⟩⟩
  · rw [if_neg (show ¬ (1 : Int) = 0 by decide)]
  · rw [if_pos rfl]
theorem o12 {σ : Sg} {c a1 a2 : Int} (H : Rel c σ) : OpB 402 302 [vA 0, vI a1, vI a2, vA 726] [vA 682, vI a1, vI a2] σ (c + 1) := by
  by_cases g1 : a1 < 0
  · exact x12_0 H g1
  by_cases g2 : σ 0 3 ≤ a1
  · exact x12_1 H g2
  have k1 : 0 ≤ a1 ∧ a1 < σ 0 3 := by omega
  by_cases g3 : a2 < 0
  · exact x12_2 H k1 g3
  by_cases g4 : σ 0 3 ≤ a2
  · exact x12_3 H k1 g4
  have k2 : 0 ≤ a2 ∧ a2 < σ 0 3 := by omega
  obtain ⟨a, rfl⟩ := Int.eq_ofNat_of_zero_le k1.1
  obtain ⟨b, rfl⟩ := Int.eq_ofNat_of_zero_le k2.1
  have hn := (rel_n H).1
  obtain ⟨hP, q1, q2, w1, w3⟩ := po_pat H k1.2
  obtain ⟨nb, na, b1, b2, N, S⟩ := po_slot q1 q2 w1 w3
  obtain ⟨hQ, r1, r2, y1, y3⟩ := po_pat H k2.2
  obtain ⟨nb', na', b3, b4, N', S'⟩ := po_slot r1 r2 y1 y3
  have e230 := d230_ok (σ := σ) k1 hn.2.2
  have f230 := d230_ok (σ := σ) k2 hn.2.2
  rw [show ((a : Int)).toNat = a by omega] at e230
  rw [show ((b : Int)).toNat = b by omega] at f230
  obtain ⟨c1, c2⟩ := d237 hP hQ H.1 N N'
  have m0 : ∀ {s : Sg} {o : Rs}, s 682 3 = σ 682 3 → C302_21 a b none 1 s o → Dd 302 [vA 682, vI a, vI b] s o := by
    intro s o h hh
    refine b302 ⟨_, _, d248_ok (by omega), ?_⟩
    rw [if_neg (show ¬ (1 : Int) = 0 by decide)]
    refine ⟨_, _, d248_ok (by omega), ?_⟩
    rw [if_neg (show ¬ (1 : Int) = 0 by decide)]
    exact hh
  by_cases hf : FLW nb' na (σ (20 + 13 * a + 4)) (σ (20 + 13 * b + 2))
  · obtain ⟨t1, t2⟩ := d6 hP hQ (WF_w H.1 (pat_9 hP)) (WF_w H.1 (pat_9 hQ)) (PC_of N (by omega) (by omega)) (PC_of N' (by omega) (by omega))
    obtain ⟨v, hv, ev, dv⟩ : ∃ v : Int, (v = 0 ∨ v = 1) ∧ (v = 1 ↔ TCH (hks (σ (20 + 13 * a + 6)) nb na) (hks (σ (20 + 13 * b + 6)) nb' na')) ∧ Dd 6 [vA 350, vA (20 + 13 * a), vA (20 + 13 * b)] σ (rI v σ) := by
      by_cases e : TCH (hks (σ (20 + 13 * a + 6)) nb na) (hks (σ (20 + 13 * b + 6)) nb' na')
      · exact ⟨1, Or.inr rfl, ⟨fun _ => e, fun _ => rfl⟩, t1 e⟩
      · exact ⟨0, Or.inl rfl, ⟨fun h => absurd h (by decide), fun h => absurd h e⟩, t2 e⟩
    have hA : Dd 402 [vA 0, vI a, vI b, vA 726] σ (rI 0 (upS σ 726 0 v)) := by
      refine b402 (Or.inl ⟨_, _, b184 (Or.inl ⟨_, _, e230, hP, Or.inl ⟨_, _, f230, hQ, Or.inl ⟨_, c1 hf, _, _, dv, hv, rfl⟩⟩⟩), b402_16 ⟨by decide, ?_⟩⟩)
      rcases hv with e | e <;> rw [e] <;> rfl
    have fr : ∀ c k, 685 ≤ c ∧ c ≤ 689 → upS (upS σ 726 0 v) 682 0 0 c k = σ c k := fun c k h => by rw [up_a (by omega), up_a (by omega)]
    have S1 := Slot_fr fr S
    have S2 := Slot_fr fr S'
    have fr0 : ∀ c k, 685 ≤ c ∧ c ≤ 689 → upS σ 726 0 v c k = σ c k := fun c k h => by rw [up_a (by omega)]
    obtain ⟨z, s2, d1, d2, d3, d4⟩ := d292 (s := a) (t := b) (by omega) (by omega) (by omega) (by omega) (by omega) (by omega) N.2.2.2.2.1 N'.2.2.2.2.1 S1 S2
    have ezv : z = v := by
      rcases hv with e | e
      · rcases d2 with e2 | e2
        · omega
        · have := ev.mpr (d3.mp e2)
          omega
      · have := d3.mpr (ev.mp e)
        omega
    have hoff : ∀ c k, ¬ (c = 682 ∧ k = 0) → ¬ c = 726 → ¬ (700 ≤ c ∧ c ≤ 704) → s2 c k = σ c k := by
      intro c k h1 h2 h3
      rw [d4 c k h3]
      unfold upS
      rw [if_neg (by omega), if_neg (by omega)]
    refine op_finB hA (b := if z = 0 then 0 else 1) (s2 := s2) (m0 (up_a (by decide)) ?_) ?_ (fun _ => ?_) (fun a k ha => up_a (by omega)) (fun a k ha => hoff _ _ (by omega) (by omega) (by omega)) (Rel_sc (by omega) (WF_fr (fun a k ha => hoff _ _ (by omega) (by omega) (by omega)) H.1) (fun c k hk => hoff _ _ (by omega) (by omega) (by omega)) H)
    · refine b302_21 ?_
      rw [if_neg (show ¬ (1 : Int) = 0 by decide)]
      refine ⟨_, _, (d290 (by omega) (by omega) (by omega) (Slot_fr fr0 S) (Slot_fr fr0 S')).1 hf, ?_⟩
      rw [if_neg (show ¬ (1 : Int) = 0 by decide)]
      refine b302_45 ⟨_, _, d245, ?_⟩
      rw [if_pos rfl, if_neg (show ¬ (1 : Int) = 0 by decide)]
      exact ⟨_, _, d1, rfl⟩
    · rw [d4 _ _ (by omega), up_s]
    · rw [d4 _ _ (by omega), up_a (by decide), up_s, ezv]
      rcases hv with e | e <;> rw [e] <;> rfl
  · refine op_xB H (kx := 2) (b := 0) (by decide) (b402 (Or.inr (Or.inr ⟨_, b184 (Or.inl ⟨_, _, e230, hP, Or.inl ⟨_, _, f230, hQ, Or.inr ⟨_, _, c2 hf, rfl⟩⟩⟩), rfl⟩))) (m0 rfl ?_)
    refine b302_21 ?_
    rw [if_neg (show ¬ (1 : Int) = 0 by decide)]
    refine ⟨_, _, (d290 (by omega) (by omega) (by omega) S S').2 hf, ?_⟩
    rw [if_pos rfl]
    refine b302_45 ⟨_, _, d245, ?_⟩
    rw [if_neg (show ¬ (2 : Int) = 0 by decide), if_pos rfl]
end
