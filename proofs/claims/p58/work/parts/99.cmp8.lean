/-! RARE, on both sides. -/
noncomputable section
def rrF (f g : Nat → Int) (a ae b be : Nat) : Nat → Nat → Int → Int → Int
  | 0, _, x, _ => x
  | d + 1, k, x, w => if cnt f (f k) a (ae - a) < w ∧ 0 < cnt g (f k) b (be - b) then rrF f g a ae b be d (k + 1) k (cnt f (f k) a (ae - a)) else rrF f g a ae b be d (k + 1) x w
theorem rrF_s {f g : Nat → Int} {a ae b be d k : Nat} {x w : Int} : rrF f g a ae b be (d + 1) k x w = if cnt f (f k) a (ae - a) < w ∧ 0 < cnt g (f k) b (be - b) then rrF f g a ae b be d (k + 1) k (cnt f (f k) a (ae - a)) else rrF f g a ae b be d (k + 1) x w := rfl
def rst (f g : Nat → Int) (a ae b be : Nat) : Int := rrF f g a ae b be (ae - a) a (-1) 4
theorem rrF_c {f g : Nat → Int} {a ae b be : Nat} : ∀ (d k : Nat) (x w : Int), (x = -1 ∨ ∃ i : Nat, x = (i : Int) ∧ a ≤ i ∧ i < ae ∧ 0 < cnt g (f i) b (be - b)) → a ≤ k → k + d ≤ ae → (rrF f g a ae b be d k x w = -1 ∨ ∃ i : Nat, rrF f g a ae b be d k x w = (i : Int) ∧ a ≤ i ∧ i < ae ∧ 0 < cnt g (f i) b (be - b)) := by
  intro d
  induction d with
  | zero => intro k x w h _ _; exact h
  | succ d ih =>
    intro k x w h h1 h2
    rw [rrF_s]
    by_cases y : cnt f (f k) a (ae - a) < w ∧ 0 < cnt g (f k) b (be - b)
    · rw [if_pos y]
      exact ih _ _ _ (Or.inr ⟨k, rfl, h1, by omega, y.2⟩) (by omega) (by omega)
    · rw [if_neg y]
      exact ih _ _ _ h (by omega) (by omega)
theorem rst_c {f g : Nat → Int} {a ae b be : Nat} (ha : a ≤ ae) : rst f g a ae b be = -1 ∨ ∃ k j : Nat, rst f g a ae b be = (k : Int) ∧ a ≤ k ∧ k < ae ∧ fnd g (f k) b (be - b) = (j : Int) ∧ b ≤ j ∧ j < be ∧ g j = f k := by
  rcases rrF_c (f := f) (g := g) (b := b) (be := be) (ae - a) a (-1) 4 (Or.inl rfl) (Nat.le_refl a) (show a + (ae - a) ≤ ae by omega) with e | ⟨k, e, h1, h2, h3⟩
  · exact Or.inl e
  · obtain ⟨j, e1, e2, e3, e4⟩ := fnd_in _ _ ((cnt_0 (f := g) (x := f k) (be - b) b).mp h3)
    exact Or.inr ⟨k, j, e, h1, h2, e1, e2, by omega, e4⟩
/-- rarestLine -/
theorem d33 {σ : Sg} {f g : Nat → Int} {n1 n2 a ae b be : Nat} (C : CR σ f g n1 n2) (ha : a ≤ ae) (hb : b ≤ be) (h1 : ae ≤ n1) (h2 : be ≤ n2) : Dd 33 [vA 332, vI a, vI ae, vI b, vI be] σ (rI (rst f g a ae b be) σ) := by
  have c1 := C.1
  have L : ∀ (d k : Nat) (x w : Int) (d8 : Option AV), k + d = ae → C33_9 a ae b be x w k d8 σ (rI (rrF f g a ae b be d k x w) σ) := by
    intro d
    induction d with
    | zero =>
      intro k x w d8 hk
      refine b33_9 ?_
      rw [if_neg (by omega), show rrF f g a ae b be 0 k x w = x from rfl]
    | succ d ih =>
      intro k x w d8 hk
      have C' := C
      obtain ⟨-, -, W1, W2, -, Z1, Z2, -, HF, HG⟩ := C'
      have p1 := CR_1 C (show k < n1 by omega)
      have p2 := d157 (x := f k) W1 Z1 HF ha h1
      have p3 := d157 (x := f k) W2 Z2 HG hb h2
      refine b33_9 ?_
      rw [if_pos (by omega), rrF_s]
      refine ⟨_, _, p1, _, _, p2, ?_⟩
      by_cases y1 : cnt f (f k) a (ae - a) < w
      · rw [if_pos y1]
        refine ⟨_, _, p1, _, _, p3, b33_72 ⟨by omega, ?_⟩⟩
        rw [show (k : Int) + 1 = ((k + 1 : Nat) : Int) by omega]
        by_cases y2 : 0 < cnt g (f k) b (be - b)
        · rw [if_pos y2, if_pos y2, if_pos ⟨y1, y2⟩]
          exact ih _ _ _ _ (by omega)
        · rw [if_neg y2, if_neg y2, if_neg (fun e => y2 e.2)]
          exact ih _ _ _ _ (by omega)
      · rw [if_neg y1, if_neg (fun e => y1 e.1)]
        refine b33_72 ⟨by omega, ?_⟩
        rw [show (k : Int) + 1 = ((k + 1 : Nat) : Int) by omega]
        exact ih _ _ _ _ (by omega)
  exact b33 (L (ae - a) a (-1) 4 none (by omega))
def rre (ad : List St → St → List St) (f g : Nat → Int) (a ae b be : Nat) (G : Nat → Int) (L : List St) (k j : Nat) : (Nat → Int) × List St := (pr (k - tl f g a k b j) (j - tl f g a k b j) (tl f g a k b j + hd f g k ae j be) G, ad (ad L (a, k - tl f g a k b j, b, j - tl f g a k b j)) (k + hd f g k ae j be, ae, j + hd f g k ae j be, be))
def rrr (ad : List St → St → List St) (f g : Nat → Int) (a ae b be : Nat) (G : Nat → Int) (L : List St) : (Nat → Int) × List St := rre ad f g a ae b be G L (rst f g a ae b be).toNat (fnd g (f (rst f g a ae b be).toNat) b (be - b)).toNat
/-- pairRarest -/
theorem d32 {σ0 : Sg} {f g G : Nat → Int} {n1 n2 a ae b be : Nat} {L : List St} (C : CR σ0 f g n1 n2) (ha : a ≤ ae) (hb : b ≤ be) (h1 : ae ≤ n1) (h2 : be ≤ n2) (hG : ∀ x, x < n1 → σ0 338 x = G x) (hR : Rw σ0 343 (fl4 L)) (hl : L.length + 2 ≤ 160) : ∃ s, Dd 32 [vA 332, vI a, vI ae, vI b, vI be] σ0 (rI (if rst f g a ae b be = -1 then 0 else 1) s) ∧ (∀ x, x < n1 → s 338 x = if rst f g a ae b be = -1 then G x else (rrr ads f g a ae b be G L).1 x) ∧ Rw s 343 (fl4 (if rst f g a ae b be = -1 then L else (rrr ads f g a ae b be G L).2)) ∧ ∀ c x, ¬ c = 338 → ¬ c = 343 → ¬ c = 344 → s c x = σ0 c x := by
  have c1 := C.1
  have c2 := C.2.1
  have q1 := d33 C ha hb h1 h2
  rcases rst_c (f := f) (g := g) (b := b) (be := be) ha with e | ⟨k, j, e, k1, k2, e2, j1, j2, e3⟩
  · rw [if_pos e, if_pos e]
    refine ⟨σ0, b32 ⟨_, _, q1, ?_⟩, fun x hx => by rw [if_pos e]; exact hG x hx, hR, fun _ _ _ _ _ => rfl⟩
    rw [if_pos e]
  · have hne : ¬ rst f g a ae b be = -1 := by omega
    have ek : (rst f g a ae b be).toNat = k := by omega
    have ej : (fnd g (f k) b (be - b)).toNat = j := by omega
    have er : rrr ads f g a ae b be G L = rre ads f g a ae b be G L k j := by
      unfold rrr
      rw [ek, ej]
    rw [if_neg hne, if_neg hne, er]
    obtain ⟨t, ht⟩ : ∃ t, t = tl f g a k b j := ⟨_, rfl⟩
    obtain ⟨u, hu⟩ : ∃ u, u = hd f g k ae j be := ⟨_, rfl⟩
    have bt := tl_b (f := f) (g := g) (a := a) (ae := k) (b := b) (be := j)
    have bu := hd_b (f := f) (g := g) (a := k) (ae := ae) (b := j) (be := be)
    rw [← ht] at bt
    rw [← hu] at bu
    have p1 := CR_1 C (show k < n1 by omega)
    have C' := C
    obtain ⟨-, -, W1, W2, -, Z1, Z2, -, HF, HG⟩ := C'
    have p2 := d160 (x := f k) W2 Z2 HG (show b ≤ n2 by omega)
    rw [fnd_ext (be - b) (n2 - b) b (by omega) ⟨j, j1, by omega, e3⟩, e2] at p2
    have p3 := d27 C k1 j1 (show k ≤ n1 by omega) (show j ≤ n2 by omega)
    rw [← ht] at p3
    have p4 := d26 C (show k ≤ ae by omega) (show j ≤ be by omega) h1 h2
    rw [← hu] at p4
    obtain ⟨s1, p5, v1, f1⟩ := d28 (i := k - t) (j := j - t) (n := t + u) C (by omega) (by omega) hG
    obtain ⟨s2, p6, r2, f2⟩ := d20 (σ := s1) (L := L) (a := a) (k := k - t) (b := b) (j := j - t) (Rw_fr (f1 _ _ (by decide)) (fun x => f1 _ _ (by decide)) hR) (by omega)
    have al := ads_len (L := L) (q := (a, k - t, b, j - t))
    obtain ⟨s3, p7, r3, f3⟩ := d20 (a := k + u) (k := ae) (b := j + u) (j := be) r2 (by omega)
    refine ⟨s3, b32 ⟨_, _, q1, ?_⟩, fun x hx => ?_, ?_, fun c x h h' h'' => ?_⟩
    · rw [if_neg hne, e]
      refine ⟨_, _, p1, _, _, p2, _, _, p3, _, _, p4, by omega, by omega, by omega, ?_⟩
      rw [show (k : Int) - (t : Int) = ((k - t : Nat) : Int) by omega, show (j : Int) - (t : Int) = ((j - t : Nat) : Int) by omega, show (t : Int) + (u : Int) = ((t + u : Nat) : Int) by omega]
      refine ⟨_, p5, _, p6, by omega, by omega, ?_⟩
      rw [show ((k - t : Nat) : Int) + ((t + u : Nat) : Int) = ((k + u : Nat) : Int) by omega, show ((j - t : Nat) : Int) + ((t + u : Nat) : Int) = ((j + u : Nat) : Int) by omega]
      exact ⟨_, p7, rfl⟩
    · rw [if_neg hne, f3 _ _ (by decide) (by decide), f2 _ _ (by decide) (by decide), v1 x hx]
      show _ = pr (k - tl f g a k b j) (j - tl f g a k b j) (tl f g a k b j + hd f g k ae j be) G x
      rw [← ht, ← hu]
    · show Rw s3 343 (fl4 (ads (ads L (a, k - tl f g a k b j, b, j - tl f g a k b j)) (k + hd f g k ae j be, ae, j + hd f g k ae j be, be)))
      rw [← ht, ← hu]
      exact r3
    · rw [f3 c x h' h'', f2 c x h' h'', f1 c x h]
/-- the reference's search for the rarest line -/
theorem l273a {σ0 : Sg} {f g : Nat → Int} {n1 n2 a ae b be : Nat} {d4 d5 : Option AV} (R : MRw σ0 f g n1 n2) (M : MS σ0 a ae b be) (ha : a ≤ ae) (hb : b ≤ be) (h1 : ae ≤ n1) (h2 : be ≤ n2) {o : Rs} : ∀ (d k : Nat) (x w : Int), k + d = ae → a ≤ k → (∀ (w' : Int) (d4 d5 : Option AV), C273_9 (rrF f g a ae b be d k x w) w' ae d4 d5 σ0 o) → ∀ (d4 d5 : Option AV), C273_9 x w k d4 d5 σ0 o := by
  have n40 := R.1
  intro d
  induction d with
  | zero =>
    intro k x w hk hak hh d4 d5
    rw [show k = ae by omega]
    exact hh w d4 d5
  | succ d ih =>
    intro k x w hk hak hh d4 d5
    have fk : σ0 691 k = f k := R.2.2.1 k (by omega)
    have q1 := d269 (x := f k) R M ha h1
    have q2 := d270 (x := f k) R M hb h2
    rw [rrF_s] at hh
    have to : ∀ (x' w' : Int) (d1 d2 d4 d5 : Option AV), (∀ (w'' : Int) (d4 d5 : Option AV), C273_9 (rrF f g a ae b be d (k + 1) x' w') w'' ae d4 d5 σ0 o) → C273_77 x' d1 k d4 d5 w' σ0 o := by
      intro x' w' d1 d2 d4 d5 h3
      refine b273_77 ⟨by omega, ?_⟩
      rw [show (k : Int) + 1 = ((k + 1 : Nat) : Int) by omega]
      exact ih (k + 1) x' w' (by omega) (by omega) h3 d4 d5
    refine b273_9 ?_
    rw [M.2.1, if_pos (by omega), tn, fk]
    refine ⟨by omega, _, _, q1, ?_⟩
    by_cases y1 : cnt f (f k) a (ae - a) < w
    · rw [if_pos y1, fk]
      refine ⟨by omega, _, _, q2, ?_⟩
      by_cases y2 : 0 < cnt g (f k) b (be - b)
      · rw [if_pos ⟨y1, y2⟩] at hh
        rw [if_pos y2]
        refine b273_53 ?_
        rw [if_neg (by decide)]
        refine b273_65 ?_
        rw [if_neg (by decide)]
        exact to _ _ _ none _ _ hh
      · rw [if_neg (fun e => y2 e.2)] at hh
        rw [if_neg y2]
        refine b273_52 (b273_53 ?_)
        rw [if_pos rfl]
        refine b273_65 ?_
        rw [if_pos rfl]
        exact to _ _ _ none _ _ hh
    · rw [if_neg (fun e => y1 e.1)] at hh
      rw [if_neg y1]
      refine b273_52 (b273_53 ?_)
      rw [if_pos rfl]
      refine b273_65 ?_
      rw [if_pos rfl]
      exact to _ _ _ none _ _ hh
/-- on from the rarest line -/
theorem l273c {σ0 : Sg} {f g G : Nat → Int} {n1 n2 a ae b be k j t u : Nat} {Q : Sg → Prop} (R : MRw σ0 f g n1 n2) (M : MS σ0 a ae b be) (hk : k < ae) (hj : j < be) (h1 : ae ≤ n1) (h2 : be ≤ n2) (ht : t ≤ k ∧ t ≤ j) (hu : u = hd f g k ae j be) (hh : ∀ s : Sg, (∀ c x, ¬ c = 693 → s c x = σ0 c x) → (∀ x, x < n1 → s 693 x = pr (k - t) (j - t) (t + u) G x) → ∃ s', (∀ d2, C273_226 ((k - t : Nat) : Int) d2 ((j - t : Nat) : Int) ((k + u : Nat) : Int) ((j + u : Nat) : Int) s (rV s')) ∧ Q s') : ∀ (d e : Nat) (σ : Sg), e + d = u → 1 ≤ e → (∀ c x, ¬ c = 693 → σ c x = σ0 c x) → (∀ x, x < n1 → σ 693 x = pr (k - t) (j - t) (t + e) G x) → ∃ s', (∀ d2, C273_173 ((k - t : Nat) : Int) d2 ((j - t : Nat) : Int) ((k + e : Nat) : Int) ((j + e : Nat) : Int) σ (rV s')) ∧ Q s' := by
  have n40 := R.1
  have n40' := R.2.1
  have bu := hd_b (f := f) (g := g) (a := k) (ae := ae) (b := j) (be := be)
  rw [← hu] at bu
  intro d
  induction d with
  | zero =>
    intro e σ he h0 hF hv
    have e1 : e = u := by omega
    subst e1
    obtain ⟨s', z, hq⟩ := hh σ hF hv
    refine ⟨s', fun d2 => b273_173 ?_, hq⟩
    rw [hF 682 18 (by decide), M.2.1, hF 682 20 (by decide), M.2.2.2]
    by_cases y1 : k + e < ae
    · rw [if_pos (by omega)]
      by_cases y2 : j + e < be
      · rw [if_pos (by omega), tn, tn, hF 691 _ (by decide), hF 692 _ (by decide), R.2.2.1 _ (by omega), R.2.2.2 _ (by omega), if_neg (bu.2.2.2 (by omega) (by omega))]
        exact ⟨by omega, by omega, z d2⟩
      · rw [if_neg (by omega)]
        exact z d2
    · rw [if_neg (by omega)]
      exact z d2
  | succ d ih =>
    intro e σ he h0 hF hv
    obtain ⟨s', z, hq⟩ := ih (e + 1) (upS σ 693 (k + e) ((j + e : Nat) : Int)) (by omega) (by omega) (fun c x hc => by rw [up_a hc]; exact hF c x hc) (fun x hx => by
      unfold pr
      by_cases y : x = k + e
      · rw [y, up_s, if_pos (by omega)]
        congr 1
        omega
      · rw [up_k y, hv x hx]
        unfold pr
        by_cases y2 : k - t ≤ x ∧ x < k - t + (t + e)
        · rw [if_pos y2, if_pos (by omega)]
        · rw [if_neg y2, if_neg (by omega)])
    refine ⟨s', fun d2 => b273_173 ?_, hq⟩
    rw [hF 682 18 (by decide), M.2.1, hF 682 20 (by decide), M.2.2.2, if_pos (by omega), if_pos (by omega), tn, tn, hF 691 _ (by decide), hF 692 _ (by decide), R.2.2.1 _ (by omega), R.2.2.2 _ (by omega), if_pos (bu.2.2.1 e (by omega)), show ((k + e : Nat) : Int) + 1 = ((k + (e + 1) : Nat) : Int) by omega, show ((j + e : Nat) : Int) + 1 = ((j + (e + 1) : Nat) : Int) by omega]
    exact ⟨by omega, by omega, by omega, by omega, by omega, z d2⟩
/-- back from the rarest line -/
theorem l273b {σ0 : Sg} {f g G : Nat → Int} {n1 n2 a ae b be k j t : Nat} {Q : Sg → Prop} (R : MRw σ0 f g n1 n2) (M : MS σ0 a ae b be) (ak : a ≤ k) (bj : b ≤ j) (hk : k < n1) (hj : j < n2) (ht : t = tl f g a k b j) (hh : ∀ s : Sg, (∀ c x, ¬ c = 693 → s c x = σ0 c x) → (∀ x, x < n1 → s 693 x = pr (k - t) (j - t) (t + 1) G x) → ∃ s', (∀ d2, C273_173 ((k - t : Nat) : Int) d2 ((j - t : Nat) : Int) ((k + 1 : Nat) : Int) ((j + 1 : Nat) : Int) s (rV s')) ∧ Q s') : ∀ (d e : Nat) (σ : Sg), e + d = t → (∀ c x, ¬ c = 693 → σ c x = σ0 c x) → (∀ x, x < n1 → σ 693 x = pr (k - e) (j - e) (e + 1) G x) → ∃ s', (∀ d2, C273_122 ((k - e : Nat) : Int) d2 ((j - e : Nat) : Int) ((k + 1 : Nat) : Int) ((j + 1 : Nat) : Int) σ (rV s')) ∧ Q s' := by
  have n40 := R.1
  have n40' := R.2.1
  have bt := tl_b (f := f) (g := g) (a := a) (ae := k) (b := b) (be := j)
  rw [← ht] at bt
  intro d
  induction d with
  | zero =>
    intro e σ he hF hv
    have e1 : e = t := by omega
    subst e1
    obtain ⟨s', z, hq⟩ := hh σ hF hv
    refine ⟨s', fun d2 => b273_122 ?_, hq⟩
    rw [hF 682 17 (by decide), M.1, hF 682 19 (by decide), M.2.2.1]
    by_cases y1 : a < k - e
    · rw [if_pos (by omega)]
      by_cases y2 : b < j - e
      · rw [if_pos (by omega), show ((k - e : Nat) : Int) - 1 = ((k - 1 - e : Nat) : Int) by omega, show ((j - e : Nat) : Int) - 1 = ((j - 1 - e : Nat) : Int) by omega, tn, tn, hF 691 _ (by decide), hF 692 _ (by decide), R.2.2.1 _ (by omega), R.2.2.2 _ (by omega), if_neg (bt.2.2.2 (by omega) (by omega))]
        exact ⟨by omega, by omega, by omega, by omega, z d2⟩
      · rw [if_neg (by omega)]
        exact z d2
    · rw [if_neg (by omega)]
      exact z d2
  | succ d ih =>
    intro e σ he hF hv
    obtain ⟨s', z, hq⟩ := ih (e + 1) (upS σ 693 (k - (e + 1)) ((j - (e + 1) : Nat) : Int)) (by omega) (fun c x hc => by rw [up_a hc]; exact hF c x hc) (fun x hx => by
      unfold pr
      by_cases y : x = k - (e + 1)
      · rw [y, up_s, if_pos (by omega)]
        congr 1
        omega
      · rw [up_k y, hv x hx]
        unfold pr
        by_cases y2 : k - e ≤ x ∧ x < k - e + (e + 1)
        · rw [if_pos y2, if_pos (by omega)]
          congr 1
          omega
        · rw [if_neg y2, if_neg (by omega)])
    have q3 := bt.2.2.1 e (by omega)
    refine ⟨s', fun d2 => b273_122 ?_, hq⟩
    rw [hF 682 17 (by decide), M.1, hF 682 19 (by decide), M.2.2.1, if_pos (by omega), if_pos (by omega), show ((k - e : Nat) : Int) - 1 = ((k - 1 - e : Nat) : Int) by omega, show ((j - e : Nat) : Int) - 1 = ((j - 1 - e : Nat) : Int) by omega, tn, tn, hF 691 _ (by decide), hF 692 _ (by decide), R.2.2.1 _ (by omega), R.2.2.2 _ (by omega), if_pos q3, show ((k - e : Nat) : Int) + (-1) = ((k - (e + 1) : Nat) : Int) by omega, show ((j - e : Nat) : Int) + (-1) = ((j - (e + 1) : Nat) : Int) by omega, tn]
    exact ⟨by omega, by omega, by omega, by omega, by omega, by omega, by omega, z d2⟩
/-- the reference's rare -/
theorem d273 {f g G : Nat → Int} {n1 n2 a ae b be : Nat} {L : List St} {σ : Sg} (R : MRw σ f g n1 n2) (M : MS σ a ae b be) (ha : a ≤ ae) (hb : b ≤ be) (h1 : ae ≤ n1) (h2 : be ≤ n2) (hG : ∀ x, x < n1 → σ 693 x = G x) (hW : Wt σ L) (hl : L.length + 2 ≤ 128) : ∃ s, Dd 273 [vA 682] σ (rV s) ∧ (∀ x, x < n1 → s 693 x = if rst f g a ae b be = -1 then wk f g ae be ((ae - a) + (be - b)) a b G x else (rrr adm f g a ae b be G L).1 x) ∧ Wt s (if rst f g a ae b be = -1 then L else (rrr adm f g a ae b be G L).2) ∧ ∀ c x, ¬ (693 ≤ c ∧ c ≤ 694) → ¬ c = 696 → ¬ (c = 682 ∧ x = 22) → s c x = σ c x := by
  have n40 := R.1
  have n40' := R.2.1
  have st : ∀ (o : Rs), (∀ (w' : Int) (d4 d5 : Option AV), C273_9 (rst f g a ae b be) w' ae d4 d5 σ o) → Dd 273 [vA 682] σ o := by
    intro o hh
    refine b273 ?_
    rw [M.1]
    exact l273a (d4 := none) (d5 := none) R M ha hb h1 h2 (ae - a) a (-1) 4 (by omega) (Nat.le_refl a) hh none none
  rcases rst_c (f := f) (g := g) (b := b) (be := be) ha with e | ⟨k, j, e, k1, k2, e2, j1, j2, e3⟩
  · obtain ⟨s, e1, e2, e3⟩ := d266 (σ0 := σ) (G := G) (f := f) (g := g) ha hb h1 h2 (by omega) (by omega) M.1 M.2.1 M.2.2.1 M.2.2.2 R.2.2.1 R.2.2.2 hG
    rw [if_pos e]
    refine ⟨s, st _ (fun w' d4 d5 => b273_9 ?_), fun x hx => by rw [if_pos e]; exact e2 x hx, Wt_fr (e3 _ _ (by decide) (by decide)) (fun x => e3 _ _ (by decide) (by decide)) hW, fun c x y1 y2 y3 => e3 c x (by omega) (by omega)⟩
    rw [M.2.1, if_neg (by omega), if_pos e]
    exact ⟨_, e1, rfl⟩
  · have hne : ¬ rst f g a ae b be = -1 := by omega
    have ek : (rst f g a ae b be).toNat = k := by omega
    have ej : (fnd g (f k) b (be - b)).toNat = j := by omega
    have er : rrr adm f g a ae b be G L = rre adm f g a ae b be G L k j := by
      unfold rrr
      rw [ek, ej]
    rw [if_neg hne, er]
    obtain ⟨t, ht⟩ : ∃ t, t = tl f g a k b j := ⟨_, rfl⟩
    obtain ⟨u, hu⟩ : ∃ u, u = hd f g k ae j be := ⟨_, rfl⟩
    have bt := tl_b (f := f) (g := g) (a := a) (ae := k) (b := b) (be := j)
    have bu := hd_b (f := f) (g := g) (a := k) (ae := ae) (b := j) (be := be)
    rw [← ht] at bt
    rw [← hu] at bu
    have hu1 : 1 ≤ u := by
      by_cases y : 1 ≤ u
      · exact y
      · exfalso
        have z := bu.2.2.2 (by omega) (by omega)
        rw [show u = 0 by omega, Nat.add_zero, Nat.add_zero] at z
        exact z e3.symm
    have q1 := d271 (x := f k) R M hb h2
    rw [e2] at q1
    have fk : σ 691 k = f k := R.2.2.1 k (by omega)
    obtain ⟨s, z, v, w, fr⟩ := l273b (G := G) (Q := fun s => (∀ x, x < n1 → s 693 x = pr (k - t) (j - t) (t + u) G x) ∧ Wt s ((L ++ [(a, k - t, b, j - t)]) ++ [(k + u, ae, j + u, be)]) ∧ ∀ c x, ¬ c = 693 → ¬ c = 696 → ¬ (c = 682 ∧ x = 22) → s c x = σ c x) R M k1 j1 (by omega) (by omega) ht (fun s1 hF hv => l273c (σ0 := σ) R M k2 j2 h1 h2 (by omega) hu (fun s2 hF2 hv2 => by
      obtain ⟨s3, p1, w1, f1⟩ := d267 (σ := s2) (L := L) (a := a) (k := k - t) (b := b) (j := j - t) (Wt_fr (hF2 _ _ (by decide)) (fun x => hF2 _ _ (by decide)) hW) (by omega)
      obtain ⟨s4, p2, w2, f2⟩ := d267 (σ := s3) (a := k + u) (k := ae) (b := j + u) (j := be) w1 (by rw [List.length_append]; show L.length + 1 < 128; omega)
      refine ⟨s4, fun d2 => b273_226 ?_, fun x hx => by rw [f2 _ _ (by decide) (by omega), f1 _ _ (by decide) (by omega), hv2 x hx], w2, fun c x y1 y2 y3 => by rw [f2 c x y2 y3, f1 c x y2 y3]; exact hF2 c x y1⟩
      rw [hF2 682 17 (by decide), M.1, hF2 682 19 (by decide), M.2.2.1]
      refine ⟨_, p1, ?_⟩
      rw [f1 682 18 (by decide) (by decide), hF2 682 18 (by decide), M.2.1, f1 682 20 (by decide) (by decide), hF2 682 20 (by decide), M.2.2.2]
      exact ⟨_, p2, rfl⟩) (u - 1) 1 s1 (by omega) (Nat.le_refl 1) hF hv) t 0 (upS σ 693 k (j : Int)) (by omega) (fun c x hc => up_a hc) (fun x hx => by
      unfold pr
      by_cases y : x = k
      · rw [y, up_s, if_pos (by omega)]
        congr 1
        omega
      · rw [up_k y, hG x hx, if_neg (by omega)])
    refine ⟨s, st _ (fun w' d4 d5 => b273_9 ?_), fun x hx => ?_, ?_, fun c x y1 y2 y3 => fr c x (by omega) y2 y3⟩
    · rw [M.2.1, if_neg (by omega), if_neg hne, e, tn, fk]
      refine ⟨by omega, _, _, q1, by omega, by omega, by omega, ?_⟩
      rw [show (k : Int) + 1 = ((k + 1 : Nat) : Int) by omega, show (j : Int) + 1 = ((j + 1 : Nat) : Int) by omega]
      exact z _
    · rw [if_neg hne, v x hx]
      show _ = pr (k - tl f g a k b j) (j - tl f g a k b j) (tl f g a k b j + hd f g k ae j be) G x
      rw [← ht, ← hu]
    · show Wt s ((L ++ [(a, k - tl f g a k b j, b, j - tl f g a k b j)]) ++ [(k + hd f g k ae j be, ae, j + hd f g k ae j be, be)])
      rw [← ht, ← hu]
      exact w
end
