/-! A patch put on a text: the reference's side. -/
noncomputable section
/-- what the reference's search reads -/
def PM (σ : Sg) (s t nb na n : Nat) (X T N : Nat → Int) (l : List St) : Prop := s < 44 ∧ t < 4 ∧ n ≤ 16 ∧ nb ≤ 16 ∧ na ≤ 16 ∧ l.length ≤ 17 ∧ HK σ 0 0 l ∧ σ 704 0 = (l.length : Nat) ∧ σ 684 t = (n : Nat) ∧ σ 688 s = (nb : Nat) ∧ (∀ i, i < n → σ 683 (16 * t + i) = T i) ∧ (∀ i, i < nb → σ 685 (100 * s + i) = X i) ∧ ∀ i, i < na → σ 686 (100 * s + i) = N i
theorem PM_fr {σ s' : Sg} {s t nb na n : Nat} {X T N : Nat → Int} {l : List St} (h : ∀ c x, (700 ≤ c ∧ c ≤ 704) ∨ (683 ≤ c ∧ c ≤ 688) → s' c x = σ c x) (P : PM σ s t nb na n X T N l) : PM s' s t nb na n X T N l := by
  obtain ⟨p1, p2, p3, p4, p5, p6, p7, p8, p9, p10, p11, p12, p13⟩ := P
  refine ⟨p1, p2, p3, p4, p5, p6, fun x q hq => ?_, by rw [h _ _ (by omega)]; exact p8, by rw [h _ _ (by omega)]; exact p9, by rw [h _ _ (by omega)]; exact p10, fun i hi => by rw [h _ _ (by omega)]; exact p11 i hi, fun i hi => by rw [h _ _ (by omega)]; exact p12 i hi, fun i hi => by rw [h _ _ (by omega)]; exact p13 i hi⟩
  rw [h _ _ (by omega), h _ _ (by omega), h _ _ (by omega), h _ _ (by omega)]
  exact p7 x q hq
theorem HK_0 {σ : Sg} {l : List St} (K : HK σ 0 0 l) {h : Nat} {q : St} (hq : l[h]? = some q) : σ 700 h = (q.1 : Nat) ∧ σ 701 h = (q.2.1 : Nat) ∧ σ 702 h = (q.2.2.1 : Nat) ∧ σ 703 h = (q.2.2.2 : Nat) := by
  have z := K h q hq
  rw [show 128 * 0 + (0 + h) = h by omega] at z
  exact z
theorem l321 {σ : Sg} {s t nb na n h e p : Nat} {X T N : Nat → Int} {l : List St} {q : St} {d5 d6 d7} (P : PM σ s t nb na n X T N l) (hq : l[h]? = some q) (hq16 : q.1 ≤ 16) (he : e ≤ n) (he2 : q.1 + e ≤ nb + p) : ∀ (d k : Nat), k + d = e → p ≤ q.1 + k → C321_54 s h t p d5 d6 d7 e 1 k σ (rI (WI (∀ x, k ≤ x → x < e → T x = X (q.1 + x - p))) σ) := by
  obtain ⟨p1, p2, p3, p4, p5, p6, p7, p8, p9, p10, p11, p12, p13⟩ := P
  have hlt := (List.getElem?_eq_some_iff.mp hq).1
  obtain ⟨v0, -⟩ := HK_0 p7 hq
  intro d
  induction d with
  | zero =>
    intro k hk h0
    refine b321_54 ?_
    rw [if_neg (by omega), WI_1 (fun x h1 h2 => absurd h1 (by omega))]
    exact ⟨Or.inr rfl, rfl⟩
  | succ d ih =>
    intro k hk h0
    refine b321_54 ?_
    rw [if_pos (by omega), if_neg (show ¬ (1 : Int) = 0 by decide)]
    rw [tn, v0]
    refine ⟨by omega, by omega, by omega, by omega, by omega, by omega, by omega, by omega, by omega, ?_⟩
    rw [show (16 * (t : Int) + (k : Int)).toNat = 16 * t + k by omega, show (100 * (s : Int) + ((q.1 : Nat) : Int) + (k : Int) - (p : Int)).toNat = 100 * s + (q.1 + k - p) by omega, p11 k (by omega), p12 (q.1 + k - p) (by omega)]
    refine b321_108 ⟨by omega, ?_⟩
    rw [show (k : Int) + 1 = ((k + 1 : Nat) : Int) by omega]
    by_cases y : T k = X (q.1 + k - p)
    · rw [if_pos y]
      have z := ih (k + 1) (by omega) (by omega)
      rw [WI_cg (p := ∀ x, k ≤ x → x < e → T x = X (q.1 + x - p)) (q := ∀ x, k + 1 ≤ x → x < e → T x = X (q.1 + x - p)) ⟨fun h x h1 h2 => h x (by omega) h2, fun h x h1 h2 => by
        by_cases e : x = k
        · rw [e]; exact y
        · exact h x (by omega) h2⟩]
      exact z
    · rw [if_neg y, WI_0 (fun h => y (h k (Nat.le_refl _) (by omega)))]
      refine b321_54 ?_
      by_cases y2 : ((k + 1 : Nat) : Int) < (e : Int)
      · rw [if_pos y2, if_pos rfl]
        exact ⟨Or.inl rfl, rfl⟩
      · rw [if_neg y2]
        exact ⟨Or.inl rfl, rfl⟩
/-- fits -/
theorem d321 {σ : Sg} {s t nb na n h a b least : Nat} {X T N : Nat → Int} {l : List St} {q : St} {p : Int} (P : PM σ s t nb na n X T N l) (hq : l[h]? = some q) (ha : a ≤ q.1) (hb : q.1 + q.2.1 + b ≤ nb) (hp : -1000 ≤ p ∧ p ≤ 1000) : Dd 321 [vA 682, vI s, vI h, vI t, vI p, vI a, vI b, vI least] σ (rI (WI (ftP X T n q.1 q.2.1 a b least p)) σ) := by
  have hP := P
  obtain ⟨p1, p2, p3, p4, p5, p6, p7, p8, p9, p10, p11, p12, p13⟩ := hP
  have hlt := (List.getElem?_eq_some_iff.mp hq).1
  obtain ⟨v0, v1, -⟩ := HK_0 p7 hq
  have no : ∀ (d6 d7 : Option AV) (x8 : Int), ¬ ftP X T n q.1 q.2.1 a b least p → C321_44 s h t p a d6 d7 x8 none none σ (rI (WI (ftP X T n q.1 q.2.1 a b least p)) σ) := fun d6 d7 x8 hn => by
    rw [WI_0 hn]
    refine b321_44 (b321_45 ⟨by omega, b321_54 ?_⟩)
    by_cases y : p - (a : Int) < x8
    · rw [if_pos y, if_pos rfl]
      exact ⟨Or.inl rfl, rfl⟩
    · rw [if_neg y]
      exact ⟨Or.inl rfl, rfl⟩
  refine b321 ?_
  rw [tn, tn, v1, p9]
  refine ⟨by omega, by omega, by omega, ?_⟩
  by_cases y1 : (least : Int) ≤ p
  · rw [if_pos y1]
    refine ⟨by omega, ?_⟩
    by_cases y2 : (a : Int) ≤ p
    · rw [if_pos (by omega)]
      refine ⟨by omega, ?_⟩
      obtain ⟨pn, hpn⟩ := Int.eq_ofNat_of_zero_le (show 0 ≤ p by omega)
      subst hpn
      by_cases y3 : (pn : Int) + ((q.2.1 : Nat) : Int) + (b : Int) ≤ (n : Int)
      · rw [if_pos y3]
        refine b321_45 ⟨by omega, ?_⟩
        have z := l321 (d5 := some (vI (a : Int))) (d6 := some (vI (b : Int))) (d7 := some (vI (least : Int))) (p := pn) (e := pn + q.2.1 + b) P hq (by omega) (by omega) (by omega) (a + q.2.1 + b) (pn - a) (by omega) (by omega)
        rw [show (pn : Int) - (a : Int) = ((pn - a : Nat) : Int) by omega, show (pn : Int) + ((q.2.1 : Nat) : Int) + (b : Int) = ((pn + q.2.1 + b : Nat) : Int) by omega]
        rw [WI_cg (p := ftP X T n q.1 q.2.1 a b least (pn : Int)) (q := ∀ x, pn - a ≤ x → x < pn + q.2.1 + b → T x = X (q.1 + x - pn)) ⟨fun h x h1 h2 => by
          have z := h.2.2.2 (x - (pn - a)) (by omega)
          rw [show q.1 - a + (x - (pn - a)) = q.1 + x - pn by omega, show ((pn : Nat) : Int).toNat - a + (x - (pn - a)) = x by omega] at z
          exact z.symm, fun h => ⟨y1, y2, by omega, fun x hx => by
          have z := h (pn - a + x) (by omega) (by omega)
          rw [show q.1 + (pn - a + x) - pn = q.1 - a + x by omega] at z
          rw [show ((pn : Nat) : Int).toNat - a + x = pn - a + x by omega]
          exact z.symm⟩⟩]
        exact z
      · rw [if_neg y3]
        exact no _ _ _ (fun h => y3 (by have := h.2.2.1; omega))
    · rw [if_neg (by omega)]
      exact no _ _ _ (fun h => y2 h.2.1)
  · rw [if_neg y1]
    exact no _ _ _ (fun h => y1 h.1)
/-- seeks -/
theorem l322 {σ : Sg} {s t nb na n h a b least : Nat} {X T N : Nat → Int} {l : List St} {q : St} {ex : Int} (P : PM σ s t nb na n X T N l) (hq : l[h]? = some q) (ha : a ≤ q.1) (hb : q.1 + q.2.1 + b ≤ nb) (hx : -100 ≤ ex ∧ ex ≤ 100) : ∀ (d k : Nat), k + d = 48 → C322_3 s h t ex a b least k σ (rI (skF (ftP X T n q.1 q.2.1 a b least) ex d k) σ) := by
  intro d
  induction d with
  | zero =>
    intro k hk
    refine b322_3 ?_
    rw [if_neg (by omega)]
    rfl
  | succ d ih =>
    intro k hk
    have f1 := d321 (p := ex - k) (least := least) P hq ha hb (by omega)
    have f2 := d321 (p := ex + k) (least := least) P hq ha hb (by omega)
    refine b322_3 ?_
    rw [if_pos (by omega)]
    refine ⟨by omega, _, _, f1, ?_⟩
    by_cases y1 : ftP X T n q.1 q.2.1 a b least (ex - k)
    · rw [WI_1 y1, if_neg (show ¬ (1 : Int) = 0 by decide), sk_b y1]
      exact ⟨by omega, rfl⟩
    · rw [WI_0 y1, if_pos rfl]
      refine ⟨by omega, _, _, f2, ?_⟩
      by_cases y2 : ftP X T n q.1 q.2.1 a b least (ex + k)
      · rw [WI_1 y2, if_neg (show ¬ (1 : Int) = 0 by decide), sk_o y1 y2]
        exact ⟨by omega, rfl⟩
      · rw [WI_0 y2, if_pos rfl, sk_n y1 y2, show (k : Int) + 1 = ((k + 1 : Nat) : Int) by omega]
        exact ⟨by omega, ih (k + 1) (by omega)⟩
theorem d323 {a k : Nat} {σ : Sg} (h : a ≤ 100 ∧ k ≤ 100) : Dd 323 [vI a, vI k] σ (rI ((a - k : Nat) : Int) σ) := by
  refine b323 ⟨fun _ => by omega, ?_⟩
  rw [show (if (k : Int) < (a : Int) then (a : Int) - (k : Int) else 0) = ((a - k : Nat) : Int) by
    by_cases y : (k : Int) < (a : Int)
    · rw [if_pos y]; omega
    · rw [if_neg y]; omega]
/-- with less and less context -/
theorem l324l {s t nb na n h ah bh least fz cnt : Nat} {X T N : Nat → Int} {l : List St} {q : St} {by' rej : Int} (hq : l[h]? = some q) (ha : ah ≤ q.1) (hb : q.1 + q.2.1 + bh ≤ nb) (h3 : ah ≤ 3 ∧ bh ≤ 3) (hx : -16 ≤ by' ∧ by' ≤ 16) (hf : fz ≤ 3) : ∀ (d k : Nat) (σ : Sg), k + d = fz + 1 → PM σ s t nb na n X T N l → σ 708 h = -1 → ∃ s', (∀ {o : Rs}, (∀ d9 d10 d11, C324_162 s t fz cnt rej least by' h d9 d10 d11 s' o) → C324_89 s t fz cnt rej least by' h ah bh k σ o) ∧ s' 708 h = (srF (fun k => skF (ftP X T n q.1 q.2.1 (ah - k) (bh - k) least) (q.1 + by') 48 0) d k).1 ∧ (¬ (srF (fun k => skF (ftP X T n q.1 q.2.1 (ah - k) (bh - k) least) (q.1 + by') 48 0) d k).1 = -1 → s' 709 h = ((srF (fun k => skF (ftP X T n q.1 q.2.1 (ah - k) (bh - k) least) (q.1 + by') 48 0) d k).2 : Nat)) ∧ ∀ c x, ¬ ((c = 708 ∨ c = 709) ∧ x = h) → s' c x = σ c x := by
  intro d
  induction d with
  | zero =>
    intro k σ hk P h8
    refine ⟨σ, fun {o} hh => b324_89 ?_, h8, fun h => absurd rfl h, fun _ _ _ => rfl⟩
    rw [if_neg (by omega)]
    exact hh _ _ _
  | succ d ih =>
    intro k σ hk P h8
    have hP := P
    obtain ⟨p1, p2, p3, p4, p5, p6, p7, p8, p9, p10, p11, p12, p13⟩ := hP
    have hlt := (List.getElem?_eq_some_iff.mp hq).1
    obtain ⟨v0, v1, -⟩ := HK_0 p7 hq
    obtain ⟨V, hV⟩ : ∃ V, V = skF (ftP X T n q.1 q.2.1 (ah - k) (bh - k) least) (q.1 + by') 48 0 := ⟨_, rfl⟩
    have e322 : Dd 322 [vA 682, vI s, vI h, vI t, vI ((q.1 : Nat) + by'), vI ((ah - k : Nat) : Int), vI ((bh - k : Nat) : Int), vI least] σ (rI V σ) := by
      rw [hV]
      exact b322 (l322 P hq (by omega) (by omega) (by omega) 48 0 (by omega))
    obtain ⟨s1, hs1⟩ : ∃ s1, s1 = upS (upS σ 708 h V) 709 h k := ⟨_, rfl⟩
    have f1 : ∀ c x, ¬ ((c = 708 ∨ c = 709) ∧ x = h) → s1 c x = σ c x := fun c x hc => by
      rw [hs1]
      unfold upS
      rw [if_neg (by omega), if_neg (by omega)]
    have g8 : s1 708 h = V := by rw [hs1, up_a (by decide), up_s]
    have g9 : s1 709 h = (k : Nat) := by rw [hs1, up_s]
    have P1 : PM s1 s t nb na n X T N l := PM_fr (fun c x hc => f1 c x (by omega)) P
    have go : ∀ {o : Rs}, C324_89 s t fz cnt rej least by' h ah bh ((k + 1 : Nat) : Int) s1 o → C324_89 s t fz cnt rej least by' h ah bh k σ o := fun {o} hh => by
      refine b324_89 ?_
      rw [if_pos (by omega), tn, h8, if_pos rfl, v0]
      refine ⟨by omega, by omega, by omega, _, _, d323 (by omega), _, _, d323 (by omega), _, _, e322, by omega, by omega, by omega, ?_⟩
      rw [show (k : Int) + 1 = ((k + 1 : Nat) : Int) by omega, ← hs1]
      exact hh
    have es : srF (fun k => skF (ftP X T n q.1 q.2.1 (ah - k) (bh - k) least) (q.1 + by') 48 0) (d + 1) k = if V = -1 then srF (fun k => skF (ftP X T n q.1 q.2.1 (ah - k) (bh - k) least) (q.1 + by') 48 0) d (k + 1) else (V, k) := by rw [hV]; rfl
    rw [es]
    by_cases y : V = -1
    · rw [if_pos y]
      obtain ⟨s', a1, a2, a3, a4⟩ := ih (k + 1) s1 (by omega) P1 (by rw [g8]; exact y)
      exact ⟨s', fun {o} hh => go (a1 hh), a2, a3, fun c x hc => by rw [a4 c x hc]; exact f1 c x hc⟩
    · rw [if_neg y]
      refine ⟨s1, fun {o} hh => go (b324_89 ?_), g8, fun _ => g9, f1⟩
      by_cases y2 : ((k + 1 : Nat) : Int) ≤ (fz : Int)
      · rw [if_pos y2, tn, g8, if_neg y]
        exact ⟨by omega, hh _ _ _⟩
      · rw [if_neg y2]
        exact hh _ _ _
/-- what was made so far -/
def MD (σ : Sg) (L : List Int) : Prop := σ 682 32 = (L.length : Nat) ∧ ∀ i v, L[i]? = some v → σ 705 i = v
theorem d319m {σ : Sg} {L : List Int} {v : Int} (M : MD σ L) (hl : L.length < 160) : ∃ s, Dd 319 [vA 682, vI v] σ (rV s) ∧ MD s (L ++ [v]) ∧ ∀ c x, ¬ c = 705 → ¬ (c = 682 ∧ x = 32) → s c x = σ c x := by
  have e : upS σ 705 (σ 682 32).toNat v 682 32 = σ 682 32 := up_a (by decide)
  obtain ⟨m1, m2⟩ := M
  refine ⟨_, b319 ⟨by omega, by rw [e]; omega, rfl⟩, ⟨by rw [up_s, e, List.length_append, m1]; rfl, fun i w h => ?_⟩, fun c x y1 y2 => ?_⟩
  · rw [up_a (by decide)]
    by_cases y : i < L.length
    · rw [List.getElem?_append_left y] at h
      rw [up_k (by omega)]
      exact m2 i w h
    · rw [List.getElem?_append_right (by omega)] at h
      have hx := (List.getElem?_eq_some_iff.mp h).1
      rw [List.length_singleton] at hx
      rw [show i - L.length = 0 by omega] at h
      cases h
      rw [show i = (σ 682 32).toNat by omega, up_s]
  · have e2 : ∀ w, upS (upS σ 705 (σ 682 32).toNat v) 682 32 w c x = upS σ 705 (σ 682 32).toNat v c x := fun w => by
      show (if c = 682 ∧ x = 32 then w else _) = _
      rw [if_neg y2]
    rw [e2, up_a y1]
theorem MD_fr {σ s : Sg} {L : List Int} (h1 : s 682 32 = σ 682 32) (h2 : ∀ i, s 705 i = σ 705 i) (M : MD σ L) : MD s L := ⟨by rw [h1]; exact M.1, fun i v h => by rw [h2]; exact M.2 i v h⟩
/-- the rest of the text -/
theorem l312 {s t nb na n : Nat} {X T N : Nat → Int} {l : List St} {x5 : Int} : ∀ (d k : Nat) (L : List Int) (σ : Sg), k + d = n ∨ (d = 0 ∧ n ≤ k) → PM σ s t nb na n X T N l → MD σ L → L.length + d ≤ 150 → k ≤ 100 → ∃ s', (∀ d1 d3 d4 d6 d7 d9 d10 d11, C324_312 d1 t d3 d4 x5 d6 d7 k d9 d10 d11 σ (rI x5 s')) ∧ MD s' (L ++ rlZ T k d) ∧ ∀ c x, ¬ c = 705 → ¬ (c = 682 ∧ x = 32) → s' c x = σ c x := by
  intro d
  induction d with
  | zero =>
    intro k L σ hk P M hl hk2
    have hP := P
    obtain ⟨p1, p2, p3, p4, p5, p6, p7, p8, p9, p10, p11, p12, p13⟩ := hP
    refine ⟨σ, fun d1 d3 d4 d6 d7 d9 d10 d11 => b324_312 ⟨by omega, ?_⟩, by rw [rl_0]; exact M, fun _ _ _ _ => rfl⟩
    rw [tn, p9, if_neg (by omega)]
  | succ d ih =>
    intro k L σ hk P M hl hk2
    have hP := P
    obtain ⟨p1, p2, p3, p4, p5, p6, p7, p8, p9, p10, p11, p12, p13⟩ := hP
    obtain ⟨s1, e1, e2, e3⟩ := d319m (v := T k) M (by omega)
    obtain ⟨s', a1, a2, a3⟩ := ih (k + 1) (L ++ [T k]) s1 (by omega) (PM_fr (fun c x hc => e3 c x (by omega) (by omega)) P) e2 (by rw [List.length_append, List.length_singleton]; omega) (by omega)
    rw [rl_c] at a2
    refine ⟨s', fun d1 d3 d4 d6 d7 d9 d10 d11 => b324_312 ⟨by omega, ?_⟩, a2, fun c x y1 y2 => by rw [a3 c x y1 y2]; exact e3 c x y1 y2⟩
    rw [tn, p9, if_pos (by omega), show (16 * (t : Int) + (k : Int)).toNat = 16 * t + k by omega, p11 k (by omega), show (k : Int) + 1 = ((k + 1 : Nat) : Int) by omega]
    exact ⟨by omega, by omega, by omega, s1, e1, by omega, a1 _ _ _ _ _ _ _ _⟩
theorem l189 {s t nb na n h p : Nat} {X T N : Nat → Int} {l : List St} {x3 x4 x5 : Int} (hh : h < 32) (hp : p ≤ n) : ∀ (d k : Nat) (L : List Int) (σ : Sg), k + d = p → PM σ s t nb na n X T N l → σ 708 h = (p : Nat) → MD σ L → L.length + d ≤ 150 → ∃ s', (∀ (d6 d7 d9 d10 : Option AV) {o : Rs}, C324_226 s t x3 x4 x5 d6 d7 h d9 d10 0 s' o → C324_189 s t x3 x4 x5 d6 d7 h d9 d10 k σ o) ∧ MD s' (L ++ rlZ T k d) ∧ ∀ c x, ¬ c = 705 → ¬ (c = 682 ∧ x = 32) → s' c x = σ c x := by
  intro d
  induction d with
  | zero =>
    intro k L σ hk P h8 M hl
    refine ⟨σ, fun d6 d7 d9 d10 {o} hh2 => b324_189 ⟨by omega, ?_⟩, by rw [rl_0]; exact M, fun _ _ _ _ => rfl⟩
    rw [tn, h8, if_neg (by omega)]
    exact hh2
  | succ d ih =>
    intro k L σ hk P h8 M hl
    have hP := P
    obtain ⟨p1, p2, p3, p4, p5, p6, p7, p8, p9, p10, p11, p12, p13⟩ := hP
    obtain ⟨s1, e1, e2, e3⟩ := d319m (v := T k) M (by omega)
    obtain ⟨s', a1, a2, a3⟩ := ih (k + 1) (L ++ [T k]) s1 (by omega) (PM_fr (fun c x hc => e3 c x (by omega) (by omega)) P) (by rw [e3 _ _ (by omega) (by omega)]; exact h8) e2 (by rw [List.length_append, List.length_singleton]; omega)
    rw [rl_c] at a2
    refine ⟨s', fun d6 d7 d9 d10 {o} hh2 => b324_189 ⟨by omega, ?_⟩, a2, fun c x y1 y2 => by rw [a3 c x y1 y2]; exact e3 c x y1 y2⟩
    rw [tn, h8, if_pos (by omega), show (16 * (t : Int) + (k : Int)).toNat = 16 * t + k by omega, p11 k (by omega), show (k : Int) + 1 = ((k + 1 : Nat) : Int) by omega]
    exact ⟨by omega, by omega, by omega, s1, e1, by omega, a1 _ _ _ _ hh2⟩
theorem l226 {s t nb na n h p : Nat} {X T N : Nat → Int} {l : List St} {q : St} {x3 x4 x5 : Int} (hq : l[h]? = some q) (hqa : q.2.2.1 + q.2.2.2 ≤ na) (hqb : q.1 ≤ 16 ∧ q.2.1 ≤ 16) (hp : p ≤ 16) : ∀ (d k : Nat) (L : List Int) (σ : Sg), k + d = q.2.2.2 → PM σ s t nb na n X T N l → σ 708 h = (p : Nat) → MD σ L → L.length + d ≤ 150 → ∃ s', (∀ (d6 d7 d9 d10 : Option AV) {o : Rs}, (∀ d9 d10 d11, C324_302 s t x3 x4 x5 ((p + q.2.1 : Nat) : Int) ((p : Int) - (q.1 : Nat)) h d9 d10 d11 s' o) → C324_226 s t x3 x4 x5 d6 d7 h d9 d10 k σ o) ∧ MD s' (L ++ rlZ N (q.2.2.1 + k) d) ∧ ∀ c x, ¬ c = 705 → ¬ (c = 682 ∧ x = 32) → s' c x = σ c x := by
  have hlt := (List.getElem?_eq_some_iff.mp hq).1
  intro d
  induction d with
  | zero =>
    intro k L σ hk P h8 M hl
    have hP := P
    obtain ⟨p1, p2, p3, p4, p5, p6, p7, p8, p9, p10, p11, p12, p13⟩ := hP
    obtain ⟨v0, v1, v2, v3⟩ := HK_0 p7 hq
    refine ⟨σ, fun d6 d7 d9 d10 {o} hh2 => b324_226 ⟨by omega, ?_⟩, by rw [rl_0]; exact M, fun _ _ _ _ => rfl⟩
    rw [tn, v3, if_neg (by omega), h8, v0, v1, show (p : Int) + ((q.2.1 : Nat) : Int) = ((p + q.2.1 : Nat) : Int) by omega]
    exact ⟨by omega, by omega, by omega, by omega, by omega, by omega, hh2 _ _ _⟩
  | succ d ih =>
    intro k L σ hk P h8 M hl
    have hP := P
    obtain ⟨p1, p2, p3, p4, p5, p6, p7, p8, p9, p10, p11, p12, p13⟩ := hP
    obtain ⟨v0, v1, v2, v3⟩ := HK_0 p7 hq
    obtain ⟨s1, e1, e2, e3⟩ := d319m (v := N (q.2.2.1 + k)) M (by omega)
    obtain ⟨s', a1, a2, a3⟩ := ih (k + 1) (L ++ [N (q.2.2.1 + k)]) s1 (by omega) (PM_fr (fun c x hc => e3 c x (by omega) (by omega)) P) (by rw [e3 _ _ (by omega) (by omega)]; exact h8) e2 (by rw [List.length_append, List.length_singleton]; omega)
    rw [show q.2.2.1 + (k + 1) = q.2.2.1 + k + 1 by omega, rl_c] at a2
    refine ⟨s', fun d6 d7 d9 d10 {o} hh2 => b324_226 ⟨by omega, ?_⟩, a2, fun c x y1 y2 => by rw [a3 c x y1 y2]; exact e3 c x y1 y2⟩
    rw [tn, v3, if_pos (by omega), v2, show (100 * (s : Int) + ((q.2.2.1 : Nat) : Int) + (k : Int)).toNat = 100 * s + (q.2.2.1 + k) by omega, p13 (q.2.2.1 + k) (by omega), show (k : Int) + 1 = ((k + 1 : Nat) : Int) by omega]
    exact ⟨by omega, by omega, by omega, by omega, by omega, s1, e1, by omega, a1 _ _ _ _ hh2⟩
/-- all hunks -/
theorem l324 {s t nb na n fz : Nat} {F X T N : Nat → Int} {l : List St} (D : DS F nb na l 0 0 0) (hf : fz ≤ 3) : ∀ (r : List St) (h : Nat) (rej by' : Int) (least : Nat) (L : List Int) (σ : Sg), l.drop h = r → PM σ s t nb na n X T N l → MD σ L → -16 ≤ by' ∧ by' ≤ 16 → least ≤ n → L.length + (mdF T N n r (puF X T nb n fz l r h by' least) least).length ≤ 150 → ∃ s', (∀ d9 d10 d11, C324_25 s t fz (l.length : Nat) rej least by' h d9 d10 d11 σ (rI (rjF (puF X T nb n fz l r h by' least) h rej) s')) ∧ MD s' (L ++ mdF T N n r (puF X T nb n fz l r h by' least) least) ∧ (∀ x z, (puF X T nb n fz l r h by' least)[x]? = some z → s' 708 (h + x) = z.1 ∧ (¬ z.1 = -1 → s' 709 (h + x) = (z.2 : Nat))) ∧ ∀ c x, ¬ c = 705 → ¬ (c = 682 ∧ x = 32) → ¬ ((c = 708 ∨ c = 709) ∧ h ≤ x) → s' c x = σ c x := by
  intro r
  induction r with
  | nil =>
    intro h rej by' least L σ hr P M hb hls hlen
    have hge : l.length ≤ h := List.drop_eq_nil_iff.mp hr
    have hP := P
    obtain ⟨p1, p2, p3, p4, p5, p6, p7, p8, p9, p10, p11, p12, p13⟩ := hP
    have em : mdF T N n [] (puF X T nb n fz l [] h by' least) least = rlZ T least (n - least) := rfl
    rw [em] at hlen ⊢
    rw [rl_len] at hlen
    obtain ⟨s', a1, a2, a3⟩ := l312 (x5 := rej) (n - least) least L σ (by omega) P M (by omega) (by omega)
    refine ⟨s', fun d9 d10 d11 => b324_25 ?_, a2, fun x z e => (by cases e), fun c x y1 y2 _ => a3 c x y1 y2⟩
    rw [if_neg (by omega)]
    exact a1 _ _ _ _ _ _ _ _
  | cons q r ih =>
    intro h rej by' least L σ hr P M hb hls hlen
    have hq : l[h]? = some q := by
      have y := congrArg (fun m => m[0]?) hr
      simp only [List.getElem?_drop, Nat.add_zero] at y
      exact y
    have hlt := (List.getElem?_eq_some_iff.mp hq).1
    have hr2 : l.drop (h + 1) = r := by
      have y := congrArg List.tail hr
      rw [List.tail_drop] at y
      exact y
    have hP := P
    obtain ⟨p1, p2, p3, p4, p5, p6, p7, p8, p9, p10, p11, p12, p13⟩ := hP
    have hbd := (DS_b l 0 0 0 D).2.2 q (List.mem_of_getElem? hq)
    obtain ⟨-, -, i4, i5, -, -, -, -, -, -, i12⟩ := DS_at _ _ _ _ _ _ D hq
    have e1 := d282 p7 (by omega) D (by omega) hq
    have e2 := d283 p7 (by omega) D (by omega) p1 p8 p10 hq
    -- the search
    have f8 : ∀ c x, ¬ (c = 708 ∧ x = h) → upS σ 708 h (-1) c x = σ c x := fun c x hc => by
      unfold upS
      rw [if_neg hc]
    obtain ⟨s1, a1, a2, a3, a4⟩ := l324l (s := s) (t := t) (n := n) (nb := nb) (na := na) (X := X) (T := T) (N := N) (l := l) (least := least) (fz := fz) (cnt := l.length) (rej := rej) (ah := ahF l h q) (bh := bhF nb l h q) hq (by unfold ahF; omega) (by unfold bhF; omega) (by unfold ahF bhF; omega) hb hf (fz + 1) 0 (upS σ 708 h (-1)) (by omega) (PM_fr (fun c x hc => f8 c x (by omega)) P) up_s
    obtain ⟨z, hz⟩ : ∃ z, z = hpF X T nb n fz l h q ((q.1 : Int) + by') least := ⟨_, rfl⟩
    have a2 : s1 708 h = z.1 := by rw [hz]; exact a2
    have a3 : ¬ z.1 = -1 → s1 709 h = (z.2 : Nat) := by rw [hz]; exact a3
    have g1 : ∀ c x, ¬ ((c = 708 ∨ c = 709) ∧ x = h) → s1 c x = σ c x := fun c x hc => by rw [a4 c x hc]; exact f8 c x (by omega)
    have P1 : PM s1 s t nb na n X T N l := PM_fr (fun c x hc => g1 c x (by omega)) P
    have M1 : MD s1 L := MD_fr (g1 _ _ (by omega)) (fun i => g1 _ _ (by omega)) M
    have go : ∀ (d9 d10 d11 : Option AV) {o : Rs}, (∀ d9 d10 d11, C324_162 s t fz (l.length : Nat) rej least by' h d9 d10 d11 s1 o) → C324_25 s t fz (l.length : Nat) rej least by' h d9 d10 d11 σ o := by
      intro d9 d10 d11 o hh
      have z76 : ∀ (d10 d11 : Option AV), C324_76 s t fz (l.length : Nat) rej least by' h ((ahF l h q : Nat) : Int) d10 d11 ((bhF nb l h q : Nat) : Int) σ o := fun d10 d11 => b324_76 ⟨by omega, by rw [tn]; exact a1 hh⟩
      have z52 : ∀ (d9 d10 d11 : Option AV), C324_52 s t fz (l.length : Nat) rej least by' h d9 d10 d11 ((ahF l h q : Nat) : Int) σ o := fun d9 d10 d11 => b324_52 ⟨_, _, e2, by
        by_cases y : (3 : Int) < ((nso nb l h - (q.1 + q.2.1) : Nat) : Int)
        · rw [if_pos y]
          have y2 := z76 d10 d11
          rw [show ((bhF nb l h q : Nat) : Int) = 3 by unfold bhF; omega] at y2
          exact y2
        · rw [if_neg y]
          refine ⟨_, _, e2, ?_⟩
          have y2 := z76 d10 d11
          rw [show bhF nb l h q = nso nb l h - (q.1 + q.2.1) by unfold bhF; omega] at y2
          exact y2⟩
      refine b324_25 ?_
      rw [if_pos (by omega)]
      refine ⟨_, _, e1, ?_⟩
      by_cases y : (3 : Int) < ((q.1 - peo l h 0 : Nat) : Int)
      · rw [if_pos y]
        have y2 := z52 d9 d10 d11
        rw [show ((ahF l h q : Nat) : Int) = 3 by unfold ahF; omega] at y2
        exact y2
      · rw [if_neg y]
        refine ⟨_, _, e1, ?_⟩
        have y2 := z52 d9 d10 d11
        rw [show ahF l h q = q.1 - peo l h 0 by unfold ahF; omega] at y2
        exact y2
    have ep : puF X T nb n fz l (q :: r) h by' least = z :: (if z.1 = -1 then puF X T nb n fz l r (h + 1) by' least else puF X T nb n fz l r (h + 1) (z.1 - q.1) (z.1.toNat + q.2.1)) := by rw [hz]; rfl
    rw [ep] at hlen ⊢
    have e708 : ∀ {s' : Sg} {Z : List (Int × Nat)}, s' 708 h = z.1 → (¬ z.1 = -1 → s' 709 h = (z.2 : Nat)) → (∀ x w, Z[x]? = some w → s' 708 (h + 1 + x) = w.1 ∧ (¬ w.1 = -1 → s' 709 (h + 1 + x) = (w.2 : Nat))) → ∀ x w, (z :: Z)[x]? = some w → s' 708 (h + x) = w.1 ∧ (¬ w.1 = -1 → s' 709 (h + x) = (w.2 : Nat)) := fun {s' Z} y1 y2 y3 x w e => by
      cases x with
      | zero => cases e; exact ⟨y1, y2⟩
      | succ x =>
        have e : Z[x]? = some w := e
        have y := y3 x w e
        rw [show h + 1 + x = h + (x + 1) by omega] at y
        exact y
    by_cases y : z.1 = -1
    · rw [if_pos y] at hlen ⊢
      have em : mdF T N n (q :: r) (z :: puF X T nb n fz l r (h + 1) by' least) least = mdF T N n r (puF X T nb n fz l r (h + 1) by' least) least := if_pos y
      rw [em] at hlen ⊢
      obtain ⟨s', b1, b2, b3, b4⟩ := ih (h + 1) (iOr rej (iShl 1 (h : Int))) by' least L s1 hr2 P1 M1 hb hls hlen
      refine ⟨s', fun d9 d10 d11 => go d9 d10 d11 (fun d9 d10 d11 => b324_162 ⟨by omega, ?_⟩), b2, e708 (by rw [b4 _ _ (by omega) (by omega) (by omega)]; exact a2) (fun hn => absurd y hn) b3, fun c x y1 y2 y3 => by rw [b4 c x y1 y2 (by omega)]; exact g1 c x (by omega)⟩
      rw [tn, a2, if_pos y]
      refine b324_302 ⟨by omega, ?_⟩
      rw [show (h : Int) + 1 = ((h + 1 : Nat) : Int) by omega]
      have er : rjF (z :: puF X T nb n fz l r (h + 1) by' least) h rej = rjF (puF X T nb n fz l r (h + 1) by' least) (h + 1) (if z.1 = -1 then iOr rej (iShl 1 (h : Int)) else rej) := rfl
      rw [er, if_pos y]
      exact b1 _ _ _
    · rw [if_neg y] at hlen ⊢
      have zi := hp_in (by rw [← hz]; exact y)
      rw [← hz] at zi
      obtain ⟨z1, z2, z3⟩ := zi
      obtain ⟨p, hp⟩ := Int.eq_ofNat_of_zero_le (show 0 ≤ z.1 by omega)
      have em : mdF T N n (q :: r) (z :: puF X T nb n fz l r (h + 1) (z.1 - q.1) (z.1.toNat + q.2.1)) least = rlZ T least (z.1.toNat - least) ++ (rlZ N q.2.2.1 q.2.2.2 ++ mdF T N n r (puF X T nb n fz l r (h + 1) (z.1 - q.1) (z.1.toNat + q.2.1)) (z.1.toNat + q.2.1)) := if_neg y
      rw [em] at hlen ⊢
      rw [hp, tn] at hlen ⊢
      rw [List.length_append, List.length_append, rl_len, rl_len] at hlen
      obtain ⟨s2, c1, c2, c3⟩ := l189 (h := h) (p := p) (x3 := fz) (x4 := (l.length : Nat)) (x5 := rej) (by omega) (by omega) (p - least) least L s1 (by omega) P1 (by rw [a2, hp]) M1 (by omega)
      have P2 : PM s2 s t nb na n X T N l := PM_fr (fun c x hc => c3 c x (by omega) (by omega)) P1
      obtain ⟨s3, k1, k2, k3⟩ := l226 (h := h) (p := p) (x3 := fz) (x4 := (l.length : Nat)) (x5 := rej) hq (by omega) (by omega) (by omega) q.2.2.2 0 (L ++ rlZ T least (p - least)) s2 (by omega) P2 (by rw [c3 _ _ (by omega) (by omega), a2, hp]) c2 (by rw [List.length_append, rl_len]; omega)
      rw [Nat.add_zero] at k2
      have P3 : PM s3 s t nb na n X T N l := PM_fr (fun c x hc => k3 c x (by omega) (by omega)) P2
      obtain ⟨s', b1, b2, b3, b4⟩ := ih (h + 1) rej ((p : Int) - q.1) (p + q.2.1) (L ++ rlZ T least (p - least) ++ rlZ N q.2.2.1 q.2.2.2) s3 hr2 P3 k2 (by omega) (by omega) (by rw [List.length_append, List.length_append, rl_len, rl_len]; omega)
      have o3 : ∀ c x, ¬ c = 705 → ¬ (c = 682 ∧ x = 32) → s3 c x = s1 c x := fun c x y1 y2 => by rw [k3 c x y1 y2]; exact c3 c x y1 y2
      refine ⟨s', fun d9 d10 d11 => go d9 d10 d11 (fun d9 d10 d11 => b324_162 ⟨by omega, ?_⟩), by rw [List.append_assoc, List.append_assoc] at b2; exact b2, e708 (by rw [b4 _ _ (by omega) (by omega) (by omega), o3 _ _ (by omega) (by omega)]; exact a2) (fun hn => by rw [b4 _ _ (by omega) (by omega) (by omega), o3 _ _ (by omega) (by omega)]; exact a3 hn) b3, fun c x y1 y2 y3 => by rw [b4 c x y1 y2 (by omega), o3 c x y1 y2]; exact g1 c x (by omega)⟩
      rw [tn, a2, if_neg y]
      refine c1 _ _ _ _ (k1 _ _ _ _ (fun d9 d10 d11 => b324_302 ⟨by omega, ?_⟩))
      rw [show (h : Int) + 1 = ((h + 1 : Nat) : Int) by omega]
      have er : rjF (z :: puF X T nb n fz l r (h + 1) ((p : Int) - q.1) (p + q.2.1)) h rej = rjF (puF X T nb n fz l r (h + 1) ((p : Int) - q.1) (p + q.2.1)) (h + 1) (if z.1 = -1 then iOr rej (iShl 1 (h : Int)) else rej) := rfl
      rw [er, if_neg y]
      exact b1 _ _ _
/-- tries -/
theorem d324 {s t nb na n fz : Nat} {F X T N : Nat → Int} {σ : Sg} (hs : s < 44) (ht : t < 4) (V : VF F nb na) (h16 : n ≤ 16 ∧ nb ≤ 16 ∧ na ≤ 16) (hf : fz ≤ 3) (S : Slot σ s nb na X N F) (hn : σ 684 t = (n : Nat)) (hT : ∀ i, i < n → σ 683 (16 * t + i) = T i) {Z : List (Int × Nat)} {M : List Int} (hZ : Z = puF X T nb n fz (hks F nb na) (hks F nb na) 0 0 0) (hM : M = mdF T N n (hks F nb na) Z 0) : ∃ s', Dd 324 [vA 682, vI s, vI t, vI fz] σ (rI (rjF Z 0 0) s') ∧ MD s' M ∧ s' 704 0 = (Z.length : Nat) ∧ (∀ x z, Z[x]? = some z → s' 708 x = z.1 ∧ (¬ z.1 = -1 → s' 709 x = (z.2 : Nat))) ∧ ∀ c x, ¬ (700 ≤ c ∧ c ≤ 705) → ¬ (c = 682 ∧ x = 32) → ¬ (c = 708 ∨ c = 709) → s' c x = σ c x := by
  obtain ⟨t1, t2, t3, t4, t5⟩ := S
  have hl := hks_len V
  have D := DS_0 V
  have okz : okZ n fz (hks F nb na) Z 0 := by rw [hZ]; exact puF_ok _ 0 0 0 (Nat.zero_le _)
  obtain ⟨okp, okl⟩ := okZ_p _ Z 0 okz
  have hMl := mdF_len (T := T) (N := N) _ Z 0 0 0 0 D okz
  rw [← hM] at hMl
  obtain ⟨s1, a1, a2, a3, -, a5⟩ := d280 (s := s) (wh := 0) (f := F) (σ := σ) hs (by decide) (by omega) (by omega) V t1 t2 t5
  have a4 : ∀ c x, ¬ (700 ≤ c ∧ c ≤ 704) → s1 c x = σ c x := fun c x h => a5 c x (by omega) (by omega)
  have f2 : ∀ c x, ¬ (c = 682 ∧ x = 32) → upS s1 682 32 0 c x = s1 c x := fun c x hc => by
    unfold upS
    rw [if_neg hc]
  have P : PM (upS s1 682 32 0) s t nb na n X T N (hks F nb na) := ⟨hs, ht, h16.1, h16.2.1, h16.2.2, by omega, fun x q hq => by rw [f2 _ _ (by omega), f2 _ _ (by omega), f2 _ _ (by omega), f2 _ _ (by omega)]; exact a2 x q hq, by rw [f2 _ _ (by omega)]; exact a3, by rw [f2 _ _ (by omega), a4 _ _ (by omega)]; exact hn, by rw [f2 _ _ (by omega), a4 _ _ (by omega)]; exact t1, fun i hi => by rw [f2 _ _ (by omega), a4 _ _ (by omega)]; exact hT i hi, fun i hi => by rw [f2 _ _ (by omega), a4 _ _ (by omega)]; exact t3 i hi, fun i hi => by rw [f2 _ _ (by omega), a4 _ _ (by omega)]; exact t4 i hi⟩
  obtain ⟨s', b1, b2, b3, b4⟩ := l324 (fz := fz) D hf (hks F nb na) 0 0 0 0 [] (upS s1 682 32 0) rfl P ⟨up_s, fun i v h => by simp at h⟩ (by omega) (Nat.zero_le _) (by rw [← hZ, ← hM]; show 0 + M.length ≤ 150; omega)
  rw [← hZ] at b1 b2 b3
  rw [← hM, List.nil_append] at b2
  refine ⟨s', b324 ⟨_, s1, a1, b1 none none none⟩, b2, ?_, fun x z e => ?_, fun c x y1 y2 y3 => ?_⟩
  · rw [b4 _ _ (by omega) (by omega) (by omega), f2 _ _ (by omega), a3, okl]
  · have y := b3 x z e
    rw [Nat.zero_add] at y
    exact y
  · rw [b4 c x (by omega) y2 (by omega), f2 c x y2]
    exact a4 c x (by omega)
end
