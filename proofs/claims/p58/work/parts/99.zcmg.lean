/-! Two patches merged: the reference's side. -/
noncomputable section
/-- what the reference reads of a patch -/
def PG (σ : Sg) (s off nb na : Nat) (X N : Nat → Int) (l : List St) : Prop := s < 44 ∧ off ≤ 128 ∧ l.length ≤ 17 ∧ nb ≤ 16 ∧ na ≤ 16 ∧ (∀ h q, l[h]? = some q → σ 700 (off + h) = (q.1 : Nat) ∧ σ 701 (off + h) = (q.2.1 : Nat) ∧ σ 702 (off + h) = (q.2.2.1 : Nat) ∧ σ 703 (off + h) = (q.2.2.2 : Nat)) ∧ (∀ i, i < nb → σ 685 (100 * s + i) = X i) ∧ ∀ i, i < na → σ 686 (100 * s + i) = N i
theorem PG_fr {σ s' : Sg} {s off nb na : Nat} {X N : Nat → Int} {l : List St} (h : ∀ c x, ¬ c = 705 → ¬ (c = 682 ∧ x = 32) → s' c x = σ c x) (P : PG σ s off nb na X N l) : PG s' s off nb na X N l := by
  obtain ⟨p1, p2, p3, p4, p5, p6, p7, p8⟩ := P
  refine ⟨p1, p2, p3, p4, p5, fun x q hq => ?_, fun i hi => by rw [h _ _ (by omega) (by omega)]; exact p7 i hi, fun i hi => by rw [h _ _ (by omega) (by omega)]; exact p8 i hi⟩
  rw [h _ _ (by omega) (by omega), h _ _ (by omega) (by omega), h _ _ (by omega) (by omega), h _ _ (by omega) (by omega)]
  exact p6 x q hq
theorem d281o {σ : Sg} {s off nb na h : Nat} {X N : Nat → Int} {l : List St} {q : St} (P : PG σ s off nb na X N l) (hq : l[h]? = some q) (hb : q.1 + q.2.1 ≤ 100) : Dd 281 [vA 682, vI ((off + h : Nat) : Int)] σ (rI ((q.1 + q.2.1 : Nat) : Int) σ) := by
  obtain ⟨p1, p2, p3, p4, p5, p6, p7, p8⟩ := P
  have hlt := (List.getElem?_eq_some_iff.mp hq).1
  obtain ⟨v0, v1, -⟩ := p6 h q hq
  refine b281 ⟨by omega, by omega, ?_⟩
  rw [tn, v0, v1]
  exact ⟨by omega, by rw [show ((q.1 : Nat) : Int) + ((q.2.1 : Nat) : Int) = ((q.1 + q.2.1 : Nat) : Int) by omega]⟩
theorem l329b {s off nb na h : Nat} {X N : Nat → Int} {l : List St} {q : St} {d3} (hq : l[h]? = some q) (hb : q.2.2.1 + q.2.2.2 ≤ na) : ∀ (d k : Nat) (L : List Int) (σ : Sg), k + d = q.2.2.2 → PG σ s off nb na X N l → MD σ L → L.length + d ≤ 150 → ∃ s', C329_39 s ((off + h : Nat) : Int) d3 k σ (rV s') ∧ MD s' (L ++ rlZ N (q.2.2.1 + k) d) ∧ ∀ c x, ¬ c = 705 → ¬ (c = 682 ∧ x = 32) → s' c x = σ c x := by
  have hlt := (List.getElem?_eq_some_iff.mp hq).1
  intro d
  induction d with
  | zero =>
    intro k L σ hk P M hl
    have hP := P
    obtain ⟨p1, p2, p3, p4, p5, p6, p7, p8⟩ := hP
    obtain ⟨v0, v1, v2, v3⟩ := p6 h q hq
    refine ⟨σ, b329_39 ⟨by omega, ?_⟩, by rw [rl_0]; exact M, fun _ _ _ _ => rfl⟩
    rw [tn, v3, if_neg (by omega)]
  | succ d ih =>
    intro k L σ hk P M hl
    have hP := P
    obtain ⟨p1, p2, p3, p4, p5, p6, p7, p8⟩ := hP
    obtain ⟨v0, v1, v2, v3⟩ := p6 h q hq
    obtain ⟨s1, e1, e2, e3⟩ := d319m (v := N (q.2.2.1 + k)) M (by omega)
    obtain ⟨s', a1, a2, a3⟩ := ih (k + 1) (L ++ [N (q.2.2.1 + k)]) s1 (by omega) (PG_fr e3 P) e2 (by rw [List.length_append, List.length_singleton]; omega)
    rw [show q.2.2.1 + (k + 1) = q.2.2.1 + k + 1 by omega, rl_c] at a2
    refine ⟨s', b329_39 ⟨by omega, ?_⟩, a2, fun c x y1 y2 => by rw [a3 c x y1 y2]; exact e3 c x y1 y2⟩
    rw [tn, v3, if_pos (by omega), v2, show (100 * (s : Int) + ((q.2.2.1 : Nat) : Int) + (k : Int)).toNat = 100 * s + (q.2.2.1 + k) by omega, p8 (q.2.2.1 + k) (by omega), show (k : Int) + 1 = ((k + 1 : Nat) : Int) by omega]
    exact ⟨by omega, by omega, by omega, by omega, by omega, s1, e1, by omega, a1⟩
theorem l329a {s off nb na h : Nat} {X N : Nat → Int} {l : List St} {q : St} {d3} (hq : l[h]? = some q) (hb : q.2.2.1 + q.2.2.2 ≤ na) (hb2 : q.1 ≤ nb) : ∀ (d k : Nat) (L : List Int) (σ : Sg), k + d = q.1 → PG σ s off nb na X N l → MD σ L → L.length + d + q.2.2.2 ≤ 150 → ∃ s', C329_3 s ((off + h : Nat) : Int) d3 k σ (rV s') ∧ MD s' (L ++ rlZ X k d ++ rlZ N q.2.2.1 q.2.2.2) ∧ ∀ c x, ¬ c = 705 → ¬ (c = 682 ∧ x = 32) → s' c x = σ c x := by
  have hlt := (List.getElem?_eq_some_iff.mp hq).1
  intro d
  induction d with
  | zero =>
    intro k L σ hk P M hl
    have hP := P
    obtain ⟨p1, p2, p3, p4, p5, p6, p7, p8⟩ := hP
    obtain ⟨v0, v1, v2, v3⟩ := p6 h q hq
    obtain ⟨s', a1, a2, a3⟩ := l329b (d3 := d3) hq hb q.2.2.2 0 L σ (by omega) P M (by omega)
    rw [Nat.add_zero] at a2
    refine ⟨s', b329_3 ⟨by omega, ?_⟩, by rw [rl_0]; exact a2, a3⟩
    rw [tn, v0, if_neg (by omega)]
    exact a1
  | succ d ih =>
    intro k L σ hk P M hl
    have hP := P
    obtain ⟨p1, p2, p3, p4, p5, p6, p7, p8⟩ := hP
    obtain ⟨v0, v1, v2, v3⟩ := p6 h q hq
    obtain ⟨s1, e1, e2, e3⟩ := d319m (v := X k) M (by omega)
    obtain ⟨s', a1, a2, a3⟩ := ih (k + 1) (L ++ [X k]) s1 (by omega) (PG_fr e3 P) e2 (by rw [List.length_append, List.length_singleton]; omega)
    rw [rl_c] at a2
    refine ⟨s', b329_3 ⟨by omega, ?_⟩, a2, fun c x y1 y2 => by rw [a3 c x y1 y2]; exact e3 c x y1 y2⟩
    rw [tn, v0, if_pos (by omega), show (100 * (s : Int) + (k : Int)).toNat = 100 * s + k by omega, p7 k (by omega), show (k : Int) + 1 = ((k + 1 : Nat) : Int) by omega]
    exact ⟨by omega, by omega, by omega, s1, e1, by omega, a1⟩
theorem l328b {s off nb na : Nat} {X N : Nat → Int} {l : List St} {hi : Nat} (hh : hi ≤ nb) : ∀ (d k : Nat) (L : List Int) (σ : Sg), k + d = hi ∨ (d = 0 ∧ hi ≤ k) → PG σ s off nb na X N l → MD σ L → L.length + d ≤ 150 → ∃ s', (∀ d2 d3 d4 d6, C328_52 s d2 d3 d4 hi d6 k σ (rV s')) ∧ MD s' (L ++ rlZ X k d) ∧ ∀ c x, ¬ c = 705 → ¬ (c = 682 ∧ x = 32) → s' c x = σ c x := by
  intro d
  induction d with
  | zero =>
    intro k L σ hk P M hl
    refine ⟨σ, fun d2 d3 d4 d6 => b328_52 ?_, by rw [rl_0]; exact M, fun _ _ _ _ => rfl⟩
    rw [if_neg (by omega)]
  | succ d ih =>
    intro k L σ hk P M hl
    have hP := P
    obtain ⟨p1, p2, p3, p4, p5, p6, p7, p8⟩ := hP
    obtain ⟨s1, e1, e2, e3⟩ := d319m (v := X k) M (by omega)
    obtain ⟨s', a1, a2, a3⟩ := ih (k + 1) (L ++ [X k]) s1 (by omega) (PG_fr e3 P) e2 (by rw [List.length_append, List.length_singleton]; omega)
    rw [rl_c] at a2
    refine ⟨s', fun d2 d3 d4 d6 => b328_52 ?_, a2, fun c x y1 y2 => by rw [a3 c x y1 y2]; exact e3 c x y1 y2⟩
    rw [if_pos (by omega), show (100 * (s : Int) + (k : Int)).toNat = 100 * s + k by omega, p7 k (by omega), show (k : Int) + 1 = ((k + 1 : Nat) : Int) by omega]
    exact ⟨by omega, by omega, by omega, s1, e1, by omega, a1 _ _ _ _⟩
theorem l328 {s off nb na : Nat} {F X N : Nat → Int} {l : List St} {hi : Nat} (D : DS F nb na l 0 0 0) (hh : hi ≤ nb) : ∀ (d a p : Nat) (L : List Int) (σ : Sg), a + d ≤ l.length → (0 < d → p ≤ sO l a) → peo l (a + d) 0 ≤ hi → PG σ s off nb na X N l → MD σ L → L.length + (asF X N ((l.drop a).take d) p hi).length ≤ 150 → ∃ s', (∀ d2 d4, C328_7 s d2 ((off + (a + d) : Nat) : Int) d4 hi p ((off + a : Nat) : Int) σ (rV s')) ∧ MD s' (L ++ asF X N ((l.drop a).take d) p hi) ∧ ∀ c x, ¬ c = 705 → ¬ (c = 682 ∧ x = 32) → s' c x = σ c x := by
  intro d
  induction d with
  | zero =>
    intro a p L σ ha h0 h3 P M hl
    rw [List.take_zero] at hl ⊢
    have hl : L.length + (rlZ X p (hi - p)).length ≤ 150 := hl
    rw [rl_len] at hl
    obtain ⟨s', a1, a2, a3⟩ := l328b hh (hi - p) p L σ (by omega) P M hl
    refine ⟨s', fun d2 d4 => b328_7 ?_, a2, a3⟩
    rw [if_neg (by omega)]
    exact b328_48 (a1 _ _ _ _)
  | succ d ih =>
    intro a p L σ ha h0 h3 P M hl
    have hP := P
    obtain ⟨p1, p2, p3, p4, p5, p6, p7, p8⟩ := hP
    obtain ⟨q, hq⟩ : ∃ q, l[a]? = some q := ⟨_, List.getElem?_eq_getElem (by omega)⟩
    obtain ⟨v0, v1, v2, v3⟩ := p6 a q hq
    have h0 := h0 (by omega)
    rw [sO_s hq] at h0
    have bq := (DS_b l 0 0 0 D).2.2 q (List.mem_of_getElem? hq)
    have hle : q.1 + q.2.1 ≤ hi := by
      have mono : ∀ (e k : Nat) (r : St), l[k]? = some r → k + 1 + e ≤ l.length → r.1 + r.2.1 ≤ peo l (k + 1 + e) 0 := by
        intro e
        induction e with
        | zero => intro k r hr _; rw [Nat.add_zero, peo_l l k 0 r hr]; exact Nat.le_refl _
        | succ e ihe =>
          intro k r hr hke
          obtain ⟨r2, hr2⟩ : ∃ r2, l[k + 1]? = some r2 := ⟨_, List.getElem?_eq_getElem (by omega)⟩
          have y := (DS_nx l k 0 0 0 r r2 D hr hr2).2
          have z := ihe (k + 1) r2 hr2 (by omega)
          rw [show k + 1 + (e + 1) = k + 1 + 1 + e by omega]
          omega
      have z := mono d a q hq (by omega)
      rw [show a + 1 + d = a + (d + 1) by omega] at z
      omega
    have hdrop : (l.drop a).take (d + 1) = q :: (l.drop (a + 1)).take d := by
      rw [List.drop_eq_getElem_cons (show a < l.length by omega), List.take_succ_cons]
      congr 1
      have y := List.getElem?_eq_getElem (show a < l.length by omega)
      rw [hq] at y
      exact (Option.some.inj y).symm
    rw [hdrop] at hl ⊢
    have hl : L.length + (rlZ X p (q.1 - p) ++ (rlZ N q.2.2.1 q.2.2.2 ++ asF X N ((l.drop (a + 1)).take d) (q.1 + q.2.1) hi)).length ≤ 150 := hl
    rw [List.length_append, List.length_append, rl_len, rl_len] at hl
    obtain ⟨s1, e1, e2, e3⟩ := l329a (d3 := some (vI (p : Int))) hq (by omega) (by omega) (q.1 - p) p L σ (by omega) P M (by omega)
    have P1 := PG_fr e3 P
    have e4 := d281o P1 hq (by omega)
    obtain ⟨s', a1, a2, a3⟩ := ih (a + 1) (q.1 + q.2.1) (L ++ rlZ X p (q.1 - p) ++ rlZ N q.2.2.1 q.2.2.2) s1 (by omega) (fun hd => by
      obtain ⟨r, hr⟩ : ∃ r, l[a + 1]? = some r := ⟨_, List.getElem?_eq_getElem (by omega)⟩
      have y := (DS_nx l a 0 0 0 q r D hq hr).2
      rw [sO_s hr]
      omega) (by rw [show a + 1 + d = a + (d + 1) by omega]; exact h3) P1 e2 (by rw [List.length_append, List.length_append, rl_len, rl_len]; omega)
    refine ⟨s', fun d2 d4 => b328_7 ?_, ?_, fun c x y1 y2 => by rw [a3 c x y1 y2]; exact e3 c x y1 y2⟩
    · rw [if_pos (by omega), tn, v0, if_pos (by omega)]
      refine ⟨by omega, s1, b329 e1, _, _, e4, by omega, ?_⟩
      rw [show ((off + a : Nat) : Int) + 1 = ((off + (a + 1) : Nat) : Int) by omega]
      have y := a1 d2 d4
      rw [show off + (a + 1 + d) = off + (a + (d + 1)) by omega] at y
      exact y
    · rw [List.append_assoc, List.append_assoc] at a2
      exact a2
/-- addsStretch -/
theorem d328 {s off nb na a a' lo hi : Nat} {F X N : Nat → Int} {l : List St} {L : List Int} {σ : Sg} (D : DS F nb na l 0 0 0) (E : EQL X N F nb) (P : PG σ s off nb na X N l) (M : MD σ L) (h1 : a ≤ a') (h2 : a' ≤ l.length) (h3 : peo l a 0 ≤ lo) (h4 : lo ≤ gnd nb l a) (h5 : lo ≤ hi) (h6 : peo l a' 0 ≤ hi) (h7 : hi ≤ gnd nb l a') (hn : hi ≤ nb) (hl : L.length + (sdF N l a a' lo hi).length ≤ 150) : ∃ s', Dd 328 [vA 682, vI s, vI ((off + a : Nat) : Int), vI ((off + a' : Nat) : Int), vI lo, vI hi] σ (rV s') ∧ MD s' (L ++ sdF N l a a' lo hi) ∧ ∀ c x, ¬ c = 705 → ¬ (c = 682 ∧ x = 32) → s' c x = σ c x := by
  obtain ⟨z1, -⟩ := sd_ok D E h1 h2 h3 h4 h5 h6 h7
  rw [← z1] at hl ⊢
  have e : a + (a' - a) = a' := by omega
  obtain ⟨s', a1, a2, a3⟩ := l328 (off := off) (s := s) D hn (a' - a) a lo L σ (by omega) (fun hd => by
    obtain ⟨q, hq⟩ : ∃ q, l[a]? = some q := ⟨_, List.getElem?_eq_getElem (by omega)⟩
    rw [sO_s hq]
    unfold gnd at h4
    rw [hq] at h4
    exact h4) (by rw [e]; exact h6) P M hl
  rw [e] at a1
  exact ⟨s', b328 (a1 _ _), a2, a3⟩
theorem l330 {s t nb na nc a b : Nat} {X NA NB : Nat → Int} {A B : List St} {σ : Sg} {q r : St} (PA : PG σ s 0 nb na X NA A) (PB : PG σ t 128 nb nc X NB B) (hq : A[a]? = some q) (hr : B[b]? = some r) (b1 : q.2.2.1 + q.2.2.2 ≤ na) (b2 : r.2.2.1 + q.2.2.2 ≤ nc) : ∀ (d k : Nat), k + d = q.2.2.2 → C330_58 s ((0 + a : Nat) : Int) t ((128 + b : Nat) : Int) 1 k σ (rI (WI (∀ x, k ≤ x → x < q.2.2.2 → NA (q.2.2.1 + x) = NB (r.2.2.1 + x))) σ) := by
  obtain ⟨p1, p2, p3, p4, p5, p6, p7, p8⟩ := PA
  obtain ⟨u1, u2, u3, u4, u5, u6, u7, u8⟩ := PB
  have l1 := (List.getElem?_eq_some_iff.mp hq).1
  have l2 := (List.getElem?_eq_some_iff.mp hr).1
  obtain ⟨v0, v1, v2, v3⟩ := p6 a q hq
  obtain ⟨w0, w1, w2, w3⟩ := u6 b r hr
  intro d
  induction d with
  | zero =>
    intro k hk
    refine b330_58 ⟨by omega, ?_⟩
    rw [tn, v3, if_neg (by omega), WI_1 (fun x h1 h2 => absurd h1 (by omega))]
    exact ⟨Or.inr rfl, rfl⟩
  | succ d ih =>
    intro k hk
    refine b330_58 ⟨by omega, ?_⟩
    rw [tn, tn, v3, if_pos (by omega), if_neg (show ¬ (1 : Int) = 0 by decide), v2, w2]
    refine ⟨by omega, by omega, by omega, by omega, by omega, by omega, by omega, by omega, by omega, by omega, ?_⟩
    rw [show (100 * (s : Int) + ((q.2.2.1 : Nat) : Int) + (k : Int)).toNat = 100 * s + (q.2.2.1 + k) by omega, show (100 * (t : Int) + ((r.2.2.1 : Nat) : Int) + (k : Int)).toNat = 100 * t + (r.2.2.1 + k) by omega, p8 _ (by omega), u8 _ (by omega)]
    refine b330_121 ⟨by omega, ?_⟩
    rw [show (k : Int) + 1 = ((k + 1 : Nat) : Int) by omega]
    by_cases y : NA (q.2.2.1 + k) = NB (r.2.2.1 + k)
    · rw [if_pos y]
      rw [WI_cg (p := ∀ x, k ≤ x → x < q.2.2.2 → NA (q.2.2.1 + x) = NB (r.2.2.1 + x)) (q := ∀ x, k + 1 ≤ x → x < q.2.2.2 → NA (q.2.2.1 + x) = NB (r.2.2.1 + x)) ⟨fun h x h1 h2 => h x (by omega) h2, fun h x h1 h2 => by
        by_cases e : x = k
        · rw [e]; exact y
        · exact h x (by omega) h2⟩]
      exact ih (k + 1) (by omega)
    · rw [if_neg y, WI_0 (fun h => y (h k (Nat.le_refl _) (by omega)))]
      refine b330_58 ⟨by omega, ?_⟩
      rw [tn, v3]
      by_cases y2 : ((k + 1 : Nat) : Int) < ((q.2.2.2 : Nat) : Int)
      · rw [if_pos y2, if_pos rfl]
        exact ⟨Or.inl rfl, rfl⟩
      · rw [if_neg y2]
        exact ⟨Or.inl rfl, rfl⟩
/-- areSame -/
theorem d330 {s t nb na nc a b : Nat} {FA FB X NA NB : Nat → Int} {A B : List St} {σ : Sg} (DA : DS FA nb na A 0 0 0) (DB : DS FB nb nc B 0 0 0) (PA : PG σ s 0 nb na X NA A) (PB : PG σ t 128 nb nc X NB B) (ha : a < A.length) (hb : b < B.length) : Dd 330 [vA 682, vI s, vI ((0 + a : Nat) : Int), vI t, vI ((128 + b : Nat) : Int)] σ (rI (WI (saP NA NB A B a b)) σ) := by
  obtain ⟨q, hq⟩ : ∃ q, A[a]? = some q := ⟨_, List.getElem?_eq_getElem ha⟩
  obtain ⟨r, hr⟩ : ∃ r, B[b]? = some r := ⟨_, List.getElem?_eq_getElem hb⟩
  have hPA := PA
  have hPB := PB
  obtain ⟨p1, p2, p3, p4, p5, p6, p7, p8⟩ := hPA
  obtain ⟨u1, u2, u3, u4, u5, u6, u7, u8⟩ := hPB
  obtain ⟨v0, v1, v2, v3⟩ := p6 a q hq
  obtain ⟨w0, w1, w2, w3⟩ := u6 b r hr
  have bq := (DS_b A 0 0 0 DA).2.2 q (List.mem_of_getElem? hq)
  have br := (DS_b B 0 0 0 DB).2.2 r (List.mem_of_getElem? hr)
  have un : saP NA NB A B a b ↔ (q.1 = r.1 ∧ q.2.1 = r.2.1 ∧ q.2.2.2 = r.2.2.2 ∧ ∀ k, k < q.2.2.2 → NA (q.2.2.1 + k) = NB (r.2.2.1 + k)) := by
    constructor
    · rintro ⟨q', r', u1, u2, u3⟩
      rw [hq] at u1
      rw [hr] at u2
      cases u1
      cases u2
      exact u3
    · intro u
      exact ⟨q, r, hq, hr, u⟩
  rw [WI_cg un]
  have no : ∀ (h : ¬ (q.1 = r.1 ∧ q.2.1 = r.2.1 ∧ q.2.2.2 = r.2.2.2 ∧ ∀ k, k < q.2.2.2 → NA (q.2.2.1 + k) = NB (r.2.2.1 + k))), C330_52 s ((0 + a : Nat) : Int) t ((128 + b : Nat) : Int) none none σ (rI (WI (q.1 = r.1 ∧ q.2.1 = r.2.1 ∧ q.2.2.2 = r.2.2.2 ∧ ∀ k, k < q.2.2.2 → NA (q.2.2.1 + k) = NB (r.2.2.1 + k))) σ) := fun h => by
    rw [WI_0 h]
    refine b330_52 (b330_53 (b330_58 ⟨by omega, ?_⟩))
    rw [tn, v3]
    by_cases y2 : (0 : Int) < ((q.2.2.2 : Nat) : Int)
    · rw [if_pos y2, if_pos rfl]
      exact ⟨Or.inl rfl, rfl⟩
    · rw [if_neg y2]
      exact ⟨Or.inl rfl, rfl⟩
  refine b330 ⟨by omega, by omega, ?_⟩
  rw [tn, tn, v0, w0]
  by_cases z1 : q.1 = r.1
  · rw [if_pos (by omega)]
    refine ⟨by omega, by omega, ?_⟩
    rw [v1, w1]
    by_cases z2 : q.2.1 = r.2.1
    · rw [if_pos (by omega)]
      refine ⟨by omega, by omega, ?_⟩
      rw [v3, w3]
      by_cases z3 : q.2.2.2 = r.2.2.2
      · rw [if_pos (by omega)]
        have z := l330 PA PB hq hr (by omega) (by omega) q.2.2.2 0 (by omega)
        rw [WI_cg (p := q.1 = r.1 ∧ q.2.1 = r.2.1 ∧ q.2.2.2 = r.2.2.2 ∧ ∀ k, k < q.2.2.2 → NA (q.2.2.1 + k) = NB (r.2.2.1 + k)) (q := ∀ x, 0 ≤ x → x < q.2.2.2 → NA (q.2.2.1 + x) = NB (r.2.2.1 + x)) ⟨fun h x _ h2 => h.2.2.2 x h2, fun h => ⟨z1, z2, z3, fun k hk => h k (Nat.zero_le _) hk⟩⟩]
        exact b330_53 z
      · rw [if_neg (by omega)]
        exact no (fun h => z3 h.2.2.1)
    · rw [if_neg (by omega)]
      exact no (fun h => z2 h.2.1)
  · rw [if_neg (by omega)]
    exact no (fun h => z1 h.1)
/-- the closure -/
theorem l331c {s t nb na nc : Nat} {FA FB X NA NB : Nat → Int} {A B : List St} {σ : Sg} {o : Rs} {a b p lo a' b' hi : Nat} {mk : Int} {d9 d16} (M : mgD FA FB X NA NB nb na nc A B) (PA : PG σ s 0 nb na X NA A) (PB : PG σ t 128 nb nc X NB B) (K : C331_280 s t ((0 + a : Nat) : Int) ((128 + b : Nat) : Int) (A.length : Nat) ((128 + B.length : Nat) : Int) (some (vI p)) mk d9 lo hi ((0 + a' : Nat) : Int) ((128 + b' : Nat) : Int) (some (vI 0)) p d16 σ o) : ∀ (m a1 b1 h : Nat) (x14 : Int) (d15 : Option AV), (A.length - a1) + (B.length - b1) ≤ m → clo A B (A.length + B.length) a1 b1 h = (a', b', hi) → h ≤ 16 → C331_172 s t ((0 + a : Nat) : Int) ((128 + b : Nat) : Int) (A.length : Nat) ((128 + B.length : Nat) : Int) p mk d9 lo h ((0 + a1 : Nat) : Int) ((128 + b1 : Nat) : Int) x14 d15 d16 σ o := by
  obtain ⟨m1, m2, m3, m4, m5, DA, DB, EA, EB⟩ := M
  have hPA := PA
  have hPB := PB
  obtain ⟨p1, p2, p3, p4, p5, p6, p7, p8⟩ := hPA
  obtain ⟨u1, u2, u3, u4, u5, u6, u7, u8⟩ := hPB
  have bA : ∀ k, eO A k ≤ 16 := fun k => by
    unfold eO
    split
    · next q hq =>
      have := (DS_b A 0 0 0 DA).2.2 q (List.mem_of_getElem? hq)
      omega
    · omega
  have bB : ∀ k, eO B k ≤ 16 := fun k => by
    unfold eO
    split
    · next q hq =>
      have := (DS_b B 0 0 0 DB).2.2 q (List.mem_of_getElem? hq)
      omega
    · omega
  have bA' : ∀ k, eO A k ≤ 100 := fun k => by have := bA k; omega
  have bB' : ∀ k, eO B k ≤ 100 := fun k => by have := bB k; omega
  -- neither has more
  have out : ∀ (a1 b1 h : Nat) (d15 : Option AV), ¬ sO A a1 ≤ h → ¬ sO B b1 ≤ h → h ≤ 16 → clo A B (A.length + B.length) a1 b1 h = (a', b', hi) → C331_164 s t ((0 + a : Nat) : Int) ((128 + b : Nat) : Int) (A.length : Nat) ((128 + B.length : Nat) : Int) p mk d9 lo h ((0 + a1 : Nat) : Int) ((128 + b1 : Nat) : Int) 0 d15 d16 σ o := fun a1 b1 h d15 n1 n2 h16 hc => by
    rw [clo_n n1 n2] at hc
    cases hc
    refine b331_164 ?_
    rw [if_pos rfl]
    exact K
  have noA : ∀ (a1 b1 h : Nat) (x14 : Int) (d15 : Option AV), ¬ sO A a1 ≤ h → h ≤ 16 → C331_224 s t ((0 + a : Nat) : Int) ((128 + b : Nat) : Int) (A.length : Nat) ((128 + B.length : Nat) : Int) p mk d9 lo h ((0 + a1 : Nat) : Int) ((128 + b1 : Nat) : Int) x14 d15 d16 σ o → C331_172 s t ((0 + a : Nat) : Int) ((128 + b : Nat) : Int) (A.length : Nat) ((128 + B.length : Nat) : Int) p mk d9 lo h ((0 + a1 : Nat) : Int) ((128 + b1 : Nat) : Int) x14 d15 d16 σ o := fun a1 b1 h x14 d15 n1 h16 hh => by
    refine b331_172 ?_
    by_cases y : a1 < A.length
    · obtain ⟨q, hq⟩ : ∃ q, A[a1]? = some q := ⟨_, List.getElem?_eq_getElem y⟩
      obtain ⟨v0, -⟩ := p6 a1 q hq
      rw [sO_s hq] at n1
      rw [if_pos (by omega), tn, v0, if_neg (by omega)]
      exact ⟨by omega, hh⟩
    · rw [if_neg (by omega)]
      exact hh
  have noB : ∀ (a1 b1 h : Nat) (x14 : Int) (d15 : Option AV), ¬ sO B b1 ≤ h → h ≤ 16 → C331_164 s t ((0 + a : Nat) : Int) ((128 + b : Nat) : Int) (A.length : Nat) ((128 + B.length : Nat) : Int) p mk d9 lo h ((0 + a1 : Nat) : Int) ((128 + b1 : Nat) : Int) x14 d15 d16 σ o → C331_224 s t ((0 + a : Nat) : Int) ((128 + b : Nat) : Int) (A.length : Nat) ((128 + B.length : Nat) : Int) p mk d9 lo h ((0 + a1 : Nat) : Int) ((128 + b1 : Nat) : Int) x14 d15 d16 σ o := fun a1 b1 h x14 d15 n1 h16 hh => by
    refine b331_224 ?_
    by_cases y : b1 < B.length
    · obtain ⟨q, hq⟩ : ∃ q, B[b1]? = some q := ⟨_, List.getElem?_eq_getElem y⟩
      obtain ⟨v0, -⟩ := u6 b1 q hq
      rw [sO_s hq] at n1
      rw [if_pos (by omega), tn, v0, if_neg (by omega)]
      exact ⟨by omega, hh⟩
    · rw [if_neg (by omega)]
      exact hh
  intro m
  induction m with
  | zero =>
    intro a1 b1 h x14 d15 hm hc h16
    have n1 : ¬ sO A a1 ≤ h := fun y => by have := sO_lt (by omega) y; omega
    have n2 : ¬ sO B b1 ≤ h := fun y => by have := sO_lt (by omega) y; omega
    refine noA a1 b1 h x14 d15 n1 h16 (noB a1 b1 h x14 d15 n2 h16 ?_)
    by_cases y : x14 = 0
    · rw [y]
      exact out a1 b1 h d15 n1 n2 h16 hc
    · refine b331_164 ?_
      rw [if_neg y]
      exact noA a1 b1 h 0 d15 n1 h16 (noB a1 b1 h 0 d15 n2 h16 (out a1 b1 h d15 n1 n2 h16 hc))
  | succ m ih =>
    -- on along the second one
    have more : ∀ (n a1 b1 h : Nat) (d15 : Option AV), B.length - b1 ≤ n → (A.length - a1) + (B.length - b1) ≤ m → clo A B (A.length + B.length) a1 b1 h = (a', b', hi) → h ≤ 16 → C331_224 s t ((0 + a : Nat) : Int) ((128 + b : Nat) : Int) (A.length : Nat) ((128 + B.length : Nat) : Int) p mk d9 lo h ((0 + a1 : Nat) : Int) ((128 + b1 : Nat) : Int) 1 d15 d16 σ o := by
      intro n
      induction n with
      | zero =>
        intro a1 b1 h d15 hn hm hc h16
        have n2 : ¬ sO B b1 ≤ h := fun y => by have := sO_lt (by omega) y; omega
        refine noB a1 b1 h 1 d15 n2 h16 (b331_164 ?_)
        rw [if_neg (show ¬ (1 : Int) = 0 by decide)]
        exact ih a1 b1 h 0 d15 hm hc h16
      | succ n ihn =>
        intro a1 b1 h d15 hn hm hc h16
        by_cases y : sO B b1 ≤ h
        · have l1 := sO_lt (by omega) y
          obtain ⟨q, hq⟩ : ∃ q, B[b1]? = some q := ⟨_, List.getElem?_eq_getElem l1⟩
          obtain ⟨v0, -⟩ := u6 b1 q hq
          have bq := bB b1
          rw [eO_s hq] at bq
          have e1 := d281o PB hq (by omega)
          have hc2 : clo A B (A.length + B.length) a1 (b1 + 1) (max h (eO B b1)) = (a', b', hi) := by
            rw [← clo_b bA' bB' _ a1 b1 h (by omega) (by omega) y]
            exact hc
          have z := ihn a1 (b1 + 1) (max h (eO B b1)) d15 (by omega) (by omega) hc2 (by rw [eO_s hq]; omega)
          rw [eO_s hq] at z
          rw [sO_s hq] at y
          have z2 : C331_265 s t ((0 + a : Nat) : Int) ((128 + b : Nat) : Int) (A.length : Nat) ((128 + B.length : Nat) : Int) p mk d9 lo (some (vI h)) ((0 + a1 : Nat) : Int) ((128 + b1 : Nat) : Int) (some (vI 1)) d15 d16 ((max h (q.1 + q.2.1) : Nat) : Int) σ o := b331_265 ⟨by omega, by
            rw [show ((128 + b1 : Nat) : Int) + 1 = ((128 + (b1 + 1) : Nat) : Int) by omega]
            exact z⟩
          refine b331_224 ?_
          rw [if_pos (by omega), tn, v0, if_pos (by omega)]
          refine ⟨by omega, _, _, e1, ?_⟩
          by_cases y3 : (h : Int) < ((q.1 + q.2.1 : Nat) : Int)
          · rw [if_pos y3]
            refine ⟨_, _, e1, ?_⟩
            rw [show max h (q.1 + q.2.1) = q.1 + q.2.1 by omega] at z2
            exact z2
          · rw [if_neg y3]
            rw [show max h (q.1 + q.2.1) = h by omega] at z2
            exact z2
        · refine noB a1 b1 h 1 d15 y h16 (b331_164 ?_)
          rw [if_neg (show ¬ (1 : Int) = 0 by decide)]
          exact ih a1 b1 h 0 d15 hm hc h16
    intro a1 b1 h x14 d15 hm hc h16
    by_cases y : sO A a1 ≤ h
    · have l1 := sO_lt (by omega) y
      obtain ⟨q, hq⟩ : ∃ q, A[a1]? = some q := ⟨_, List.getElem?_eq_getElem l1⟩
      obtain ⟨v0, -⟩ := p6 a1 q hq
      have bq := bA a1
      rw [eO_s hq] at bq
      have e1 := d281o PA hq (by omega)
      have hc2 : clo A B (A.length + B.length) (a1 + 1) b1 (max h (eO A a1)) = (a', b', hi) := by
        obtain ⟨v, hv⟩ : ∃ v, A.length + B.length = v + 1 := ⟨A.length + B.length - 1, by omega⟩
        rw [hv, clo_A y] at hc
        rw [clo_w bA' bB' (A.length + B.length) v (a1 + 1) b1 _ (by omega) (by omega) (by rw [eO_s hq]; omega)]
        exact hc
      have z := ih (a1 + 1) b1 (max h (eO A a1)) 1 d15 (by omega) hc2 (by rw [eO_s hq]; omega)
      rw [eO_s hq] at z
      rw [sO_s hq] at y
      have z2 : C331_213 s t ((0 + a : Nat) : Int) ((128 + b : Nat) : Int) (A.length : Nat) ((128 + B.length : Nat) : Int) p mk d9 lo (some (vI h)) ((0 + a1 : Nat) : Int) ((128 + b1 : Nat) : Int) (some (vI x14)) d15 d16 ((max h (q.1 + q.2.1) : Nat) : Int) σ o := b331_213 ⟨by omega, by
        rw [show ((0 + a1 : Nat) : Int) + 1 = ((0 + (a1 + 1) : Nat) : Int) by omega]
        exact z⟩
      refine b331_172 ?_
      rw [if_pos (by omega), tn, v0, if_pos (by omega)]
      refine ⟨by omega, _, _, e1, ?_⟩
      by_cases y3 : (h : Int) < ((q.1 + q.2.1 : Nat) : Int)
      · rw [if_pos y3]
        refine ⟨_, _, e1, ?_⟩
        rw [show max h (q.1 + q.2.1) = q.1 + q.2.1 by omega] at z2
        exact z2
      · rw [if_neg y3]
        rw [show max h (q.1 + q.2.1) = h by omega] at z2
        exact z2
    · refine noA a1 b1 h x14 d15 y h16 ?_
      by_cases y2 : sO B b1 ≤ h
      · have l1 := sO_lt (by omega) y2
        obtain ⟨q, hq⟩ : ∃ q, B[b1]? = some q := ⟨_, List.getElem?_eq_getElem l1⟩
        obtain ⟨v0, -⟩ := u6 b1 q hq
        have bq := bB b1
        rw [eO_s hq] at bq
        have e1 := d281o PB hq (by omega)
        have hc2 : clo A B (A.length + B.length) a1 (b1 + 1) (max h (eO B b1)) = (a', b', hi) := by
          rw [← clo_b bA' bB' _ a1 b1 h (by omega) (by omega) y2]
          exact hc
        have z := more (B.length - (b1 + 1)) a1 (b1 + 1) (max h (eO B b1)) d15 (Nat.le_refl _) (by omega) hc2 (by rw [eO_s hq]; omega)
        rw [eO_s hq] at z
        rw [sO_s hq] at y2
        have z2 : C331_265 s t ((0 + a : Nat) : Int) ((128 + b : Nat) : Int) (A.length : Nat) ((128 + B.length : Nat) : Int) p mk d9 lo (some (vI h)) ((0 + a1 : Nat) : Int) ((128 + b1 : Nat) : Int) (some (vI x14)) d15 d16 ((max h (q.1 + q.2.1) : Nat) : Int) σ o := b331_265 ⟨by omega, by
          rw [show ((128 + b1 : Nat) : Int) + 1 = ((128 + (b1 + 1) : Nat) : Int) by omega]
          exact z⟩
        refine b331_224 ?_
        rw [if_pos (by omega), tn, v0, if_pos (by omega)]
        refine ⟨by omega, _, _, e1, ?_⟩
        by_cases y3 : (h : Int) < ((q.1 + q.2.1 : Nat) : Int)
        · rw [if_pos y3]
          refine ⟨_, _, e1, ?_⟩
          rw [show max h (q.1 + q.2.1) = q.1 + q.2.1 by omega] at z2
          exact z2
        · rw [if_neg y3]
          rw [show max h (q.1 + q.2.1) = h by omega] at z2
          exact z2
      · refine noB a1 b1 h x14 d15 y2 h16 ?_
        by_cases y3 : x14 = 0
        · rw [y3]
          exact out a1 b1 h d15 y y2 h16 hc
        · refine b331_164 ?_
          rw [if_neg y3]
          exact noA a1 b1 h 0 d15 y h16 (noB a1 b1 h 0 d15 y2 h16 (out a1 b1 h d15 y y2 h16 hc))
end
