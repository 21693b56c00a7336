/-! UNIQUE: what is paired, the class's side. -/
noncomputable section
abbrev St := Nat × Nat × Nat × Nat
def ads (L : List St) (q : St) : List St := if q.1 < q.2.1 ∧ q.2.2.1 < q.2.2.2 then L ++ [q] else L
theorem ads_len {L : List St} {q : St} : (ads L q).length ≤ L.length + 1 ∧ L.length ≤ (ads L q).length := by
  unfold ads
  split
  · rw [List.length_append]
    show L.length + 1 ≤ L.length + 1 ∧ L.length ≤ L.length + 1
    omega
  · omega
theorem fl4_app : ∀ (L : List St) (q : St), fl4 (L ++ [q]) = fl4 L ++ [(q.1 : Int), (q.2.1 : Int), (q.2.2.1 : Int), (q.2.2.2 : Int)] := by
  intro L
  induction L with
  | nil => intro q; rfl
  | cons a t ih =>
    intro q
    show (a.1 : Int) :: (a.2.1 : Int) :: (a.2.2.1 : Int) :: (a.2.2.2 : Int) :: fl4 (t ++ [q]) = _
    rw [ih]
    rfl
/-- addStretch -/
theorem d20 {σ : Sg} {L : List St} {a k b j : Nat} (H : Rw σ 343 (fl4 L)) (hl : L.length < 160) : ∃ s, Dd 20 [vA 332, vI a, vI k, vI b, vI j] σ (rV s) ∧ Rw s 343 (fl4 (ads L (a, k, b, j))) ∧ ∀ c x, ¬ c = 343 → ¬ c = 344 → s c x = σ c x := by
  obtain ⟨-, -, -, -, -, -, r343, c343⟩ := cpC
  have hlen := fl4_len L
  by_cases y : a < k ∧ b < j
  · have e0 : ads L (a, k, b, j) = L ++ [(a, k, b, j)] := by
      unfold ads
      rw [if_pos y]
    have q1 := d149 (v := (a : Int)) (Rw_wR r343 H (by omega))
    have r1 := Rw_ad (v := (a : Int)) H (by omega)
    have q2 := d149 (v := (k : Int)) (Rw_wR r343 r1 (by rw [List.length_append]; simp; omega))
    have r2 := Rw_ad (v := (k : Int)) r1 (by rw [List.length_append]; simp; omega)
    have q3 := d149 (v := (b : Int)) (Rw_wR r343 r2 (by rw [List.length_append, List.length_append]; simp; omega))
    have r3 := Rw_ad (v := (b : Int)) r2 (by rw [List.length_append, List.length_append]; simp; omega)
    have q4 := d149 (v := (j : Int)) (Rw_wR r343 r3 (by rw [List.length_append, List.length_append, List.length_append]; simp; omega))
    have r4 := Rw_ad (v := (j : Int)) r3 (by rw [List.length_append, List.length_append, List.length_append]; simp; omega)
    refine ⟨adS (adS (adS (adS σ 343 (a : Int)) 343 (k : Int)) 343 (b : Int)) 343 (j : Int), b20 ?_, ?_, fun c x h h' => by rw [ad_off h h', ad_off h h', ad_off h h', ad_off h h']⟩
    · rw [if_pos (by omega), if_pos (by omega)]
      exact ⟨_, q1, _, q2, _, q3, _, q4, rfl⟩
    · rw [e0, fl4_app]
      rw [List.append_assoc, List.append_assoc, List.append_assoc] at r4
      exact r4
  · refine ⟨σ, b20 ?_, ?_, fun _ _ _ _ => rfl⟩
    · by_cases y1 : a < k
      · rw [if_pos (by omega), if_neg (by omega)]
      · rw [if_neg (by omega)]
    · unfold ads
      rw [if_neg y]
      exact H
def selF (ad : List St → St → List St) (P T : Nat → Int) (ae be : Nat) : Nat → Nat → Int → Nat → Nat → (Nat → Int) → List St → (Nat → Int) × List St
  | 0, _, _, i, j, G, L => (G, ad L (i, ae, j, be))
  | d + 1, k, w, i, j, G, L => if 0 < w then (if T k = w ∧ (j : Int) ≤ P k then selF ad P T ae be d (k + 1) (w - 1) (k + 1) ((P k).toNat + 1) (updG G k (P k)) (ad L (i, k, j, (P k).toNat)) else selF ad P T ae be d (k + 1) w i j G L) else (G, ad L (i, ae, j, be))
theorem selF_s {ad : List St → St → List St} {P T : Nat → Int} {ae be d k i j : Nat} {w : Int} {G : Nat → Int} {L : List St} : selF ad P T ae be (d + 1) k w i j G L = if 0 < w then (if T k = w ∧ (j : Int) ≤ P k then selF ad P T ae be d (k + 1) (w - 1) (k + 1) ((P k).toNat + 1) (updG G k (P k)) (ad L (i, k, j, (P k).toNat)) else selF ad P T ae be d (k + 1) w i j G L) else (G, ad L (i, ae, j, be)) := rfl
theorem l29 {σ0 : Sg} {f g P T : Nat → Int} {n1 n2 a ae be : Nat} {d1 d3 : Option AV} (C : CR σ0 f g n1 n2) (h1 : ae ≤ n1) (h2 : be ≤ n2) (z339 : σ0 339 1 = (n1 : Nat)) (z341 : σ0 341 1 = (n1 : Nat)) (hP : ∀ k, a ≤ k → k < ae → σ0 340 k = P k) (hT : ∀ k, a ≤ k → k < ae → σ0 342 k = T k) (hPb : ∀ k, a ≤ k → k < ae → P k < (be : Int)) : ∀ (d k : Nat) (w : Int) (i j : Nat) (G : Nat → Int) (L : List St) (σ : Sg), k + d = ae → a ≤ k → w ≤ 100 → L.length + d + 1 ≤ 160 → (∀ c x, ¬ c = 338 → ¬ c = 343 → ¬ c = 344 → σ c x = σ0 c x) → (∀ x, x < n1 → σ 338 x = G x) → Rw σ 343 (fl4 L) → ∃ s, C29_33 d1 ae d3 be w i j k σ (rI 1 s) ∧ (∀ x, x < n1 → s 338 x = (selF ads P T ae be d k w i j G L).1 x) ∧ Rw s 343 (fl4 (selF ads P T ae be d k w i j G L).2) ∧ ∀ c x, ¬ c = 338 → ¬ c = 343 → ¬ c = 344 → s c x = σ0 c x := by
  obtain ⟨r339, c339, r341, c341⟩ := cpC2
  have h40 := C.1
  have h40' := C.2.1
  have fin : ∀ (k : Nat) (w : Int) (i j : Nat) (G : Nat → Int) (L : List St) (σ : Sg), L.length < 160 → (∀ c x, ¬ c = 338 → ¬ c = 343 → ¬ c = 344 → σ c x = σ0 c x) → (∀ x, x < n1 → σ 338 x = G x) → Rw σ 343 (fl4 L) → (¬ (k : Int) < (ae : Int) ∨ ¬ 0 < w) → ∃ s, C29_33 d1 ae d3 be w i j k σ (rI 1 s) ∧ (∀ x, x < n1 → s 338 x = G x) ∧ Rw s 343 (fl4 (ads L (i, ae, j, be))) ∧ ∀ c x, ¬ c = 338 → ¬ c = 343 → ¬ c = 344 → s c x = σ0 c x := by
    intro k w i j G L σ hl hF hG hR hx
    obtain ⟨s, e1, e2, e3⟩ := d20 (a := i) (k := ae) (b := j) (j := be) hR hl
    have z : ∀ d5 d8, C29_137 d1 ae d3 be d5 i j d8 σ (rI 1 s) := fun d5 d8 => b29_137 ⟨_, e1, rfl⟩
    refine ⟨s, b29_33 ?_, fun x hx => by rw [e3 _ _ (by decide) (by decide)]; exact hG x hx, e2, fun c x y1 y2 y3 => by rw [e3 c x y2 y3]; exact hF c x y1 y2 y3⟩
    by_cases y : (k : Int) < (ae : Int)
    · rw [if_pos y, if_neg (by
        rcases hx with h | h
        · exact absurd y h
        · exact h)]
      exact z _ _
    · rw [if_neg y]
      exact z _ _
  intro d
  induction d with
  | zero =>
    intro k w i j G L σ hk hak hw hl hF hG hR
    exact fin k w i j G L σ (by omega) hF hG hR (Or.inl (by omega))
  | succ d ih =>
    intro k w i j G L σ hk hak hw hl hF hG hR
    rw [selF_s]
    by_cases y0 : 0 < w
    · rw [if_pos y0]
      have e341 := d147 (σ := σ) (a := 341) (i := (k : Int)) ⟨r341, by rw [hF _ _ (by decide) (by decide) (by decide), z341, c341]; omega⟩
      have t341 : atS σ 341 (k : Int) = T k := by
        unfold atS
        rw [hF _ _ (by decide) (by decide) (by decide), z341, if_pos (by omega), tn, hF _ _ (by decide) (by decide) (by decide)]
        exact hT k hak (by omega)
      rw [t341] at e341
      have rP : ∀ (σ : Sg), (∀ c x, ¬ c = 338 → ¬ c = 343 → ¬ c = 344 → σ c x = σ0 c x) → Dd 147 [vA 339, vI k] σ (rI (P k) σ) := by
        intro σ hF
        have e := d147 (σ := σ) (a := 339) (i := (k : Int)) ⟨r339, by rw [hF _ _ (by decide) (by decide) (by decide), z339, c339]; omega⟩
        have e2 : atS σ 339 (k : Int) = P k := by
          unfold atS
          rw [hF _ _ (by decide) (by decide) (by decide), z339, if_pos (by omega), tn, hF _ _ (by decide) (by decide) (by decide)]
          exact hP k hak (by omega)
        rw [e2] at e
        exact e
      have pb := hPb k hak (by omega)
      have no : ¬ (T k = w ∧ (j : Int) ≤ P k) → ∃ s, C29_33 d1 ae d3 be w i j k σ (rI 1 s) ∧ (∀ x, x < n1 → s 338 x = (selF ads P T ae be d (k + 1) w i j G L).1 x) ∧ Rw s 343 (fl4 (selF ads P T ae be d (k + 1) w i j G L).2) ∧ ∀ c x, ¬ c = 338 → ¬ c = 343 → ¬ c = 344 → s c x = σ0 c x := by
        intro hn
        obtain ⟨s, a1, a2, a3, a4⟩ := ih (k + 1) w i j G L σ (by omega) (by omega) hw (by omega) hF hG hR
        refine ⟨s, b29_33 ?_, a2, a3, a4⟩
        rw [show ((k + 1 : Nat) : Int) = (k : Int) + 1 by omega] at a1
        have z : C29_131 d1 ae d3 be w i j k σ (rI 1 s) := b29_131 ⟨by omega, a1⟩
        rw [if_pos (by omega), if_pos y0]
        refine ⟨_, _, e341, ?_⟩
        by_cases y1 : T k = w
        · rw [if_pos y1]
          refine ⟨_, _, rP σ hF, ?_⟩
          rw [if_neg (fun e => hn ⟨y1, e⟩)]
          exact z
        · rw [if_neg y1]
          exact z
      by_cases y : T k = w ∧ (j : Int) ≤ P k
      · rw [if_pos y]
        obtain ⟨p, hp⟩ := Int.eq_ofNat_of_zero_le (show 0 ≤ P k by omega)
        have CF : CR σ f g n1 n2 := CR_fr (fun c x hc => hF c x (by omega) (by omega) (by omega)) C
        have e148 := CR_p (v := P k) CF (show k < n1 by omega)
        have hF1 : ∀ c x, ¬ c = 338 → ¬ c = 343 → ¬ c = 344 → upS σ 338 k (P k) c x = σ0 c x := fun c x y1 y2 y3 => by rw [up_a y1]; exact hF c x y1 y2 y3
        obtain ⟨s1, c1, c2, c3⟩ := d20 (σ := upS σ 338 k (P k)) (L := L) (a := i) (k := k) (b := j) (j := p) (Rw_fr (up_a (by decide)) (fun x => up_a (by decide)) hR) (by omega)
        have hF2 : ∀ c x, ¬ c = 338 → ¬ c = 343 → ¬ c = 344 → s1 c x = σ0 c x := fun c x y1 y2 y3 => by rw [c3 c x y2 y3]; exact hF1 c x y1 y2 y3
        have al := ads_len (L := L) (q := (i, k, j, p))
        have ptn' : (P k).toNat = p := by omega
        rw [ptn']
        obtain ⟨s, a1, a2, a3, a4⟩ := ih (k + 1) (w - 1) (k + 1) (p + 1) (updG G k (P k)) (ads L (i, k, j, p)) s1 (by omega) (by omega) (by omega) (by omega) hF2 (fun x hx => by
          rw [c3 _ _ (by decide) (by decide)]
          unfold updG
          by_cases q : x = k
          · rw [if_pos q, q, up_s]
          · rw [if_neg q, up_k q]; exact hG x hx) c2
        refine ⟨s, b29_33 ?_, a2, a3, a4⟩
        rw [if_pos (by omega), if_pos y0]
        refine ⟨_, _, e341, ?_⟩
        rw [if_pos y.1]
        refine ⟨_, _, rP σ hF, ?_⟩
        rw [if_pos y.2]
        have c1' : Dd 20 [vA 332, vI i, vI k, vI j, vI (P k)] (upS σ 338 k (P k)) (rV s1) := by
          have z := c1
          rw [hp] at z ⊢
          exact z
        refine ⟨_, _, rP σ hF, _, e148, _, _, rP _ hF1, _, c1', by omega, _, _, rP _ hF2, by omega, by omega, b29_131 ⟨by omega, ?_⟩⟩
        rw [show w + (-1) = w - 1 by omega, hp, show ((p : Nat) : Int) + 1 = ((p + 1 : Nat) : Int) by omega, show (k : Int) + 1 = ((k + 1 : Nat) : Int) by omega]
        exact a1
      · rw [if_neg y]
        exact no y
    · rw [if_neg y0]
      exact fin k w i j G L σ (by omega) hF hG hR (Or.inr y0)
/-- pairUnique -/
def unq (ad : List St → St → List St) (f g : Nat → Int) (a ae b be : Nat) (G : Nat → Int) (L : List St) : (Nat → Int) × List St := selF ad (ptn f g a ae b be) (tls (ptn f g a ae b be) ae (ae - a)) ae be (ae - a) a (lgs (ptn f g a ae b be) ae (ae - a)) a b G L
theorem d29 {σ0 : Sg} {f g G : Nat → Int} {n1 n2 a ae b be : Nat} {L : List St} (C : CR σ0 f g n1 n2) (ha : a ≤ ae) (hb : b ≤ be) (h1 : ae ≤ n1) (h2 : be ≤ n2) (hG : ∀ x, x < n1 → σ0 338 x = G x) (hR : Rw σ0 343 (fl4 L)) (hl : L.length + (ae - a) + 1 ≤ 160) : ∃ s, Dd 29 [vA 332, vI a, vI ae, vI b, vI be] σ0 (rI (if lgs (ptn f g a ae b be) ae (ae - a) = 0 then 0 else 1) s) ∧ (∀ x, x < n1 → s 338 x = if lgs (ptn f g a ae b be) ae (ae - a) = 0 then G x else (unq ads f g a ae b be G L).1 x) ∧ Rw s 343 (fl4 (if lgs (ptn f g a ae b be) ae (ae - a) = 0 then L else (unq ads f g a ae b be G L).2)) ∧ (s 339 1 = (n1 : Nat) ∧ s 341 1 = (n1 : Nat)) ∧ ∀ c x, ¬ (338 ≤ c ∧ c ≤ 344) → s c x = σ0 c x := by
  have h40 := C.1
  obtain ⟨s1, a1, a2, a3, a4⟩ := d30 C ha hb h1 h2
  have C1 : CR s1 f g n1 n2 := CR_fr (fun c x hc => a4 c x (by omega) (by omega)) C
  obtain ⟨s2, c1, c2, c3, c4⟩ := d31 (P := ptn f g a ae b be) C1 ha h1 a2 a3
  have C2 : CR s2 f g n1 n2 := CR_fr (fun c x hc => c4 c x (by omega) (by omega)) C1
  have F2 : ∀ c x, ¬ (339 ≤ c ∧ c ≤ 342) → s2 c x = σ0 c x := fun c x y => by rw [c4 c x (by omega) (by omega), a4 c x (by omega) (by omega)]
  have hR2 : Rw s2 343 (fl4 L) := Rw_fr (F2 _ _ (by decide)) (fun x => F2 _ _ (by decide)) hR
  have hG2 : ∀ x, x < n1 → s2 338 x = G x := fun x hx => by rw [F2 _ _ (by decide)]; exact hG x hx
  by_cases y : lgs (ptn f g a ae b be) ae (ae - a) = 0
  · rw [if_pos y, if_pos y]
    refine ⟨s2, b29 ⟨_, a1, _, _, c1, ?_⟩, fun x hx => by rw [if_pos y]; exact hG2 x hx, hR2, ⟨by rw [c4 _ _ (by decide) (by decide)]; exact a2, c2⟩, fun c x h => F2 c x (by omega)⟩
    rw [if_pos y]
  · rw [if_neg y, if_neg y]
    have lb : lgs (ptn f g a ae b be) ae (ae - a) ≤ 100 := by
      have : ∀ d, lgs (ptn f g a ae b be) ae d ≤ (d : Int) := by
        intro d
        induction d with
        | zero => exact Int.le_refl 0
        | succ d ih =>
          have m := mxt_b (P := ptn f g a ae b be) (T := tls (ptn f g a ae b be) ae d) (v := ptn f g a ae b be (ae - (d + 1))) (B := (d : Int)) d (ae - d) 0 (by omega) (by omega) (fun x _ _ => (tls_b d x).2)
          show (if ptn f g a ae b be (ae - (d + 1)) = -1 then lgs (ptn f g a ae b be) ae d else mxI (lgs (ptn f g a ae b be) ae d) (mxt (ptn f g a ae b be) (tls (ptn f g a ae b be) ae d) (ptn f g a ae b be (ae - (d + 1))) (ae - d) d 0 + 1)) ≤ ((d + 1 : Nat) : Int)
          unfold mxI
          split
          · omega
          · split <;> omega
      have := this (ae - a)
      omega
    obtain ⟨s, e1, e2, e3, e4⟩ := l29 (d1 := some (vI a)) (d3 := some (vI b)) (P := ptn f g a ae b be) (T := tls (ptn f g a ae b be) ae (ae - a)) (a := a) C2 h1 h2 (by rw [c4 _ _ (by decide) (by decide)]; exact a2) c2 (fun k y1 y2 => by rw [c4 _ _ (by decide) (by decide)]; exact a3 k y1 y2) c3 (fun k y1 y2 => by
      rcases ptn_c (f := f) (g := g) (a := a) (ae := ae) (b := b) (be := be) (k := k) with z | ⟨j, z1, z2, z3, z4⟩
      · omega
      · omega) (ae - a) a (lgs (ptn f g a ae b be) ae (ae - a)) a b G L s2 (by omega) (Nat.le_refl a) lb (by omega) (fun _ _ _ _ _ => rfl) hG2 hR2
    refine ⟨s, b29 ⟨_, a1, _, _, c1, ?_⟩, fun x hx => by rw [if_neg y]; exact e2 x hx, e3, ⟨by rw [e4 _ _ (by decide) (by decide) (by decide), c4 _ _ (by decide) (by decide)]; exact a2, by rw [e4 _ _ (by decide) (by decide) (by decide)]; exact c2⟩, fun c x h => by rw [e4 c x (by omega) (by omega) (by omega)]; exact F2 c x (by omega)⟩
    rw [if_neg y]
    exact e1
end
