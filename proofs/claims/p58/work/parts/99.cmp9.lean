/-! One stretch, on both sides. -/
noncomputable section
/-- what a stretch pairs, and the stretches that it leaves; not by LEAST -/
def mid (ad : List St → St → List St) (way : Int) (f g : Nat → Int) (a ae b be : Nat) (G : Nat → Int) (L : List St) : (Nat → Int) × List St :=
  if way = 1 then (if lgs (ptn f g a ae b be) ae (ae - a) = 0 then (wk f g ae be ((ae - a) + (be - b)) a b G, L) else unq ad f g a ae b be G L)
  else (if rst f g a ae b be = -1 then (wk f g ae be ((ae - a) + (be - b)) a b G, L) else rrr ad f g a ae b be G L)
def stpS (ad : List St → St → List St) (way : Int) (f g : Nat → Int) (q : St) (G : Nat → Int) (L : List St) : (Nat → Int) × List St :=
  if way = 0 then (wk f g q.2.1 q.2.2.2 ((q.2.1 - q.1) + (q.2.2.2 - q.2.2.1)) q.1 q.2.2.1 G, L)
  else mid ad way f g (q.1 + hd f g q.1 q.2.1 q.2.2.1 q.2.2.2) (q.2.1 - tl f g (q.1 + hd f g q.1 q.2.1 q.2.2.1 q.2.2.2) q.2.1 (q.2.2.1 + hd f g q.1 q.2.1 q.2.2.1 q.2.2.2) q.2.2.2) (q.2.2.1 + hd f g q.1 q.2.1 q.2.2.1 q.2.2.2) (q.2.2.2 - tl f g (q.1 + hd f g q.1 q.2.1 q.2.2.1 q.2.2.2) q.2.1 (q.2.2.1 + hd f g q.1 q.2.1 q.2.2.1 q.2.2.2) q.2.2.2)
    (pr (q.2.1 - tl f g (q.1 + hd f g q.1 q.2.1 q.2.2.1 q.2.2.2) q.2.1 (q.2.2.1 + hd f g q.1 q.2.1 q.2.2.1 q.2.2.2) q.2.2.2) (q.2.2.2 - tl f g (q.1 + hd f g q.1 q.2.1 q.2.2.1 q.2.2.2) q.2.1 (q.2.2.1 + hd f g q.1 q.2.1 q.2.2.1 q.2.2.2) q.2.2.2) (tl f g (q.1 + hd f g q.1 q.2.1 q.2.2.1 q.2.2.2) q.2.1 (q.2.2.1 + hd f g q.1 q.2.1 q.2.2.1 q.2.2.2) q.2.2.2) (pr q.1 q.2.2.1 (hd f g q.1 q.2.1 q.2.2.1 q.2.2.2) G)) L
theorem stp_m {ad : List St → St → List St} {way : Int} {f g : Nat → Int} {a ae b be p q : Nat} {G : Nat → Int} {L : List St} (hw : ¬ way = 0) (hp : p = hd f g a ae b be) (hq : q = tl f g (a + p) ae (b + p) be) : stpS ad way f g (a, ae, b, be) G L = mid ad way f g (a + p) (ae - q) (b + p) (be - q) (pr (ae - q) (be - q) q (pr a b p G)) L := by
  unfold stpS
  rw [if_neg hw]
  dsimp only
  rw [← hp, ← hq]
theorem stp_0 {ad : List St → St → List St} {f g : Nat → Int} {a ae b be : Nat} {G : Nat → Int} {L : List St} : stpS ad 0 f g (a, ae, b, be) G L = (wk f g ae be ((ae - a) + (be - b)) a b G, L) := by
  unfold stpS
  rw [if_pos rfl]
def WC (σ : Sg) : Prop := (0 ≤ σ 339 1 ∧ σ 339 1 ≤ 40) ∧ (0 ≤ σ 341 1 ∧ σ 341 1 ≤ 40)
theorem WC_fr {σ s : Sg} (h1 : s 339 1 = σ 339 1) (h2 : s 341 1 = σ 341 1) (H : WC σ) : WC s := by
  unfold WC
  rw [h1, h2]
  exact H
/-- the class: a stretch by LEAST -/
theorem d24s {σ0 : Sg} {f g G : Nat → Int} {n1 n2 a ae b be : Nat} {L : List St} (C : CR σ0 f g n1 n2) (ha : a ≤ ae) (hb : b ≤ be) (h1 : ae ≤ n1) (h2 : be ≤ n2) (hG : ∀ x, x < n1 → σ0 338 x = G x) (hR : Rw σ0 343 (fl4 L)) : ∃ s, Dd 24 [vA 332, vI a, vI ae, vI b, vI be] σ0 (rV s) ∧ (∀ x, x < n1 → s 338 x = wk f g ae be ((ae - a) + (be - b)) a b G x) ∧ Rw s 343 (fl4 L) ∧ ∀ c x, ¬ c = 338 → ¬ c = 349 → s c x = σ0 c x := by
  obtain ⟨c1, c2, w1, w2, w3, z1, z2, z3, hf, hg⟩ := C
  obtain ⟨s, e1, e2, e3⟩ := d24 (G := G) ha hb h1 h2 c1 c2 w1 w2 w3 z1 z2 z3 hf hg hG
  exact ⟨s, e1, e2, Rw_fr (e3 _ _ (by decide) (by decide)) (fun x => e3 _ _ (by decide) (by decide)) hR, fun c x h h' => e3 c x h h'⟩
/-- pairByEnds -/
theorem d25 {σ0 : Sg} {f g G : Nat → Int} {n1 n2 a ae b be : Nat} {L : List St} {way : Int} (C : CR σ0 f g n1 n2) (ha : a ≤ ae) (hb : b ≤ be) (h1 : ae ≤ n1) (h2 : be ≤ n2) (hG : ∀ x, x < n1 → σ0 338 x = G x) (hR : Rw σ0 343 (fl4 L)) (hl : L.length + (ae - a) + 2 ≤ 160) (hw : ¬ way = 0) : ∃ s, Dd 25 [vA 332, vI a, vI ae, vI b, vI be, vI way] σ0 (rV s) ∧ (∀ x, x < n1 → s 338 x = (stpS ads way f g (a, ae, b, be) G L).1 x) ∧ Rw s 343 (fl4 (stpS ads way f g (a, ae, b, be) G L).2) ∧ (WC σ0 → WC s) ∧ ∀ c x, ¬ (338 ≤ c ∧ c ≤ 344) → ¬ c = 349 → s c x = σ0 c x := by
  have c1 := C.1
  have c2 := C.2.1
  obtain ⟨p, hp⟩ : ∃ p, p = hd f g a ae b be := ⟨_, rfl⟩
  obtain ⟨q, hq⟩ : ∃ q, q = tl f g (a + p) ae (b + p) be := ⟨_, rfl⟩
  rw [stp_m hw hp hq]
  have bp := hd_b (f := f) (g := g) (a := a) (ae := ae) (b := b) (be := be)
  rw [← hp] at bp
  have bq := tl_b (f := f) (g := g) (a := a + p) (ae := ae) (b := b + p) (be := be)
  rw [← hq] at bq
  have p1 := d26 C ha hb h1 h2
  rw [← hp] at p1
  obtain ⟨s1, p2, v1, f1⟩ := d28 (i := a) (j := b) (n := p) C (by omega) (by omega) hG
  have C1 : CR s1 f g n1 n2 := CR_fr (fun c x hc => f1 c x (by omega)) C
  have p3 := d27 C1 (show a + p ≤ ae by omega) (show b + p ≤ be by omega) h1 h2
  rw [← hq] at p3
  obtain ⟨s2, p4, v2, f2⟩ := d28 (i := ae - q) (j := be - q) (n := q) C1 (by omega) (by omega) v1
  have C2 : CR s2 f g n1 n2 := CR_fr (fun c x hc => f2 c x (by omega)) C1
  have F2 : ∀ c x, ¬ c = 338 → s2 c x = σ0 c x := fun c x h => by rw [f2 c x h, f1 c x h]
  have hR2 : Rw s2 343 (fl4 L) := Rw_fr (F2 _ _ (by decide)) (fun x => F2 _ _ (by decide)) hR
  obtain ⟨i, hi⟩ : ∃ i, i = a + p := ⟨_, rfl⟩
  obtain ⟨j, hj⟩ : ∃ j, j = b + p := ⟨_, rfl⟩
  obtain ⟨ie, hie⟩ : ∃ ie, ie = ae - q := ⟨_, rfl⟩
  obtain ⟨je, hje⟩ : ∃ je, je = be - q := ⟨_, rfl⟩
  rw [← hie, ← hje] at v2
  rw [← hi, ← hj, ← hie, ← hje]
  generalize pr ie je q (pr a b p G) = G1 at v2 ⊢
  have E1 : (a : Int) + (p : Int) = (i : Int) := by omega
  have E2 : (b : Int) + (p : Int) = (j : Int) := by omega
  have E3 : (ae : Int) - (q : Int) = (ie : Int) := by omega
  have E4 : (be : Int) - (q : Int) = (je : Int) := by omega
  rw [← hi, ← hj] at p3
  rw [← hie, ← hje] at p4
  have fin : ∀ (s : Sg) (z : Int) (d1 d2 d3 d4 d5 d6 d9 d12 : Option AV) (G2 : Nat → Int) (L2 : List St) (R : (Nat → Int) × List St), (∀ c x, ¬ (338 ≤ c ∧ c ≤ 344) → s c x = s2 c x) → (WC σ0 → WC s) → (∀ x, x < n1 → s 338 x = G2 x) → Rw s 343 (fl4 L2) → (R = if z = 0 then (wk f g ie je ((ie - i) + (je - j)) i j G2, L2) else (G2, L2)) → ∃ s', C25_105 d1 d2 d3 d4 d5 d6 i j d9 ie je d12 z s (rV s') ∧ (∀ x, x < n1 → s' 338 x = R.1 x) ∧ Rw s' 343 (fl4 R.2) ∧ (WC σ0 → WC s') ∧ ∀ c x, ¬ (338 ≤ c ∧ c ≤ 344) → ¬ c = 349 → s' c x = σ0 c x := by
    intro s z d1 d2 d3 d4 d5 d6 d9 d12 G2 L2 R hF hWC hv hr hRR
    by_cases y : z = 0
    · rw [if_pos y] at hRR
      obtain ⟨s', e1, e2, e3, e4⟩ := d24s (σ0 := s) (f := f) (g := g) (n1 := n1) (n2 := n2) (G := G2) (L := L2) (CR_fr (fun c x hc => hF c x (by omega)) C2) (show i ≤ ie by omega) (show j ≤ je by omega) (by omega) (by omega) hv hr
      refine ⟨s', b25_105 ?_, fun x hx => by rw [e2 x hx, hRR], by rw [hRR]; exact e3, fun hc => WC_fr (e4 _ _ (by decide) (by decide)) (e4 _ _ (by decide) (by decide)) (hWC hc), fun c x h h' => by rw [e4 c x (by omega) h', hF c x h]; exact F2 c x (by omega)⟩
      rw [if_pos y]
      exact ⟨_, e1, rfl⟩
    · rw [if_neg y] at hRR
      refine ⟨s, b25_105 ?_, fun x hx => by rw [hv x hx, hRR], by rw [hRR]; exact hr, hWC, fun c x h h' => by rw [hF c x h]; exact F2 c x (by omega)⟩
      rw [if_neg y]
  have go : (∃ s', (if way = 1 then (∃ (v : Int) (s : Sg), Dd 29 [vA 332, vI i, vI ie, vI j, vI je] s2 (rI v s) ∧ C25_105 (some (vI a)) (some (vI ae)) (some (vI b)) (some (vI be)) (some (vI way)) (some (vI p)) i j (some (vI q)) ie je none v s (rV s')) else (∃ (v : Int) (s : Sg), Dd 32 [vA 332, vI i, vI ie, vI j, vI je] s2 (rI v s) ∧ C25_105 (some (vI a)) (some (vI ae)) (some (vI b)) (some (vI be)) (some (vI way)) (some (vI p)) i j (some (vI q)) ie je none v s (rV s'))) ∧ (∀ x, x < n1 → s' 338 x = (mid ads way f g i ie j je G1 L).1 x) ∧ Rw s' 343 (fl4 (mid ads way f g i ie j je G1 L).2) ∧ (WC σ0 → WC s') ∧ ∀ c x, ¬ (338 ≤ c ∧ c ≤ 344) → ¬ c = 349 → s' c x = σ0 c x) := by
    by_cases y1 : way = 1
    · obtain ⟨s3, e1, e2, e3, ew, e4⟩ := d29 (σ0 := s2) (G := G1) (L := L) C2 (show i ≤ ie by omega) (show j ≤ je by omega) (by omega) (by omega) v2 hR2 (by omega)
      have hm : mid ads way f g i ie j je G1 L = if lgs (ptn f g i ie j je) ie (ie - i) = 0 then (wk f g ie je ((ie - i) + (je - j)) i j G1, L) else unq ads f g i ie j je G1 L := by
        unfold mid
        rw [if_pos y1]
      by_cases y2 : lgs (ptn f g i ie j je) ie (ie - i) = 0
      · rw [if_pos y2] at e1 e3 hm
        obtain ⟨s', g1, g2, g3, g5, g4⟩ := fin s3 0 (some (vI a)) (some (vI ae)) (some (vI b)) (some (vI be)) (some (vI way)) (some (vI p)) (some (vI q)) none G1 L (mid ads way f g i ie j je G1 L) e4 (fun _ => ⟨by rw [ew.1]; omega, by rw [ew.2]; omega⟩) (fun x hx => by rw [e2 x hx, if_pos y2]) e3 (by rw [hm, if_pos rfl])
        refine ⟨s', ?_, g2, g3, g5, g4⟩
        rw [if_pos y1]
        exact ⟨_, _, e1, g1⟩
      · rw [if_neg y2] at e1 e3 hm
        obtain ⟨s', g1, g2, g3, g5, g4⟩ := fin s3 1 (some (vI a)) (some (vI ae)) (some (vI b)) (some (vI be)) (some (vI way)) (some (vI p)) (some (vI q)) none (unq ads f g i ie j je G1 L).1 (unq ads f g i ie j je G1 L).2 (mid ads way f g i ie j je G1 L) e4 (fun _ => ⟨by rw [ew.1]; omega, by rw [ew.2]; omega⟩) (fun x hx => by rw [e2 x hx, if_neg y2]) e3 (by rw [hm, if_neg (show ¬ (1 : Int) = 0 by decide)])
        refine ⟨s', ?_, g2, g3, g5, g4⟩
        rw [if_pos y1]
        exact ⟨_, _, e1, g1⟩
    · obtain ⟨s3, e1, e2, e3, e4⟩ := d32 (σ0 := s2) (G := G1) (L := L) C2 (show i ≤ ie by omega) (show j ≤ je by omega) (by omega) (by omega) v2 hR2 (by omega)
      have hm : mid ads way f g i ie j je G1 L = if rst f g i ie j je = -1 then (wk f g ie je ((ie - i) + (je - j)) i j G1, L) else rrr ads f g i ie j je G1 L := by
        unfold mid
        rw [if_neg y1]
      by_cases y2 : rst f g i ie j je = -1
      · rw [if_pos y2] at e1 e3 hm
        obtain ⟨s', g1, g2, g3, g5, g4⟩ := fin s3 0 (some (vI a)) (some (vI ae)) (some (vI b)) (some (vI be)) (some (vI way)) (some (vI p)) (some (vI q)) none G1 L (mid ads way f g i ie j je G1 L) (fun c x h => e4 c x (by omega) (by omega) (by omega)) (fun hc => WC_fr (e4 _ _ (by decide) (by decide) (by decide)) (e4 _ _ (by decide) (by decide) (by decide)) (WC_fr (F2 _ _ (by decide)) (F2 _ _ (by decide)) hc)) (fun x hx => by rw [e2 x hx, if_pos y2]) e3 (by rw [hm, if_pos rfl])
        refine ⟨s', ?_, g2, g3, g5, g4⟩
        rw [if_neg y1]
        exact ⟨_, _, e1, g1⟩
      · rw [if_neg y2] at e1 e3 hm
        obtain ⟨s', g1, g2, g3, g5, g4⟩ := fin s3 1 (some (vI a)) (some (vI ae)) (some (vI b)) (some (vI be)) (some (vI way)) (some (vI p)) (some (vI q)) none (rrr ads f g i ie j je G1 L).1 (rrr ads f g i ie j je G1 L).2 (mid ads way f g i ie j je G1 L) (fun c x h => e4 c x (by omega) (by omega) (by omega)) (fun hc => WC_fr (e4 _ _ (by decide) (by decide) (by decide)) (e4 _ _ (by decide) (by decide) (by decide)) (WC_fr (F2 _ _ (by decide)) (F2 _ _ (by decide)) hc)) (fun x hx => by rw [e2 x hx, if_neg y2]) e3 (by rw [hm, if_neg (show ¬ (1 : Int) = 0 by decide)])
        refine ⟨s', ?_, g2, g3, g5, g4⟩
        rw [if_neg y1]
        exact ⟨_, _, e1, g1⟩
  obtain ⟨s', g1, g2, g3, g5, g4⟩ := go
  refine ⟨s', b25 ?_, g2, g3, g5, g4⟩
  refine ⟨_, _, p1, _, p2, by omega, by omega, ?_⟩
  rw [E1, E2]
  refine ⟨_, _, p3, by omega, by omega, ?_⟩
  rw [E3, E4]
  exact ⟨_, p4, by omega, by omega, g1⟩
/-- the reference: a stretch -/
theorem d268s {f g G : Nat → Int} {n1 n2 a ae b be : Nat} {L : List St} {way : Int} {σ : Sg} (R : MRw σ f g n1 n2) (M : MS σ a ae b be) (ha : a ≤ ae) (hb : b ≤ be) (h1 : ae ≤ n1) (h2 : be ≤ n2) (hG : ∀ x, x < n1 → σ 693 x = G x) (hW : Wt σ L) (hl : L.length + (ae - a) + 2 ≤ 128) (hw : ¬ way = 0) : ∃ s', (∃ s1, Dd 268 [vA 682] σ (rV s1) ∧ (if way = 1 then (∃ s2, Dd 272 [vA 682] s1 (rV s2) ∧ s2 = s') else (∃ s2, Dd 273 [vA 682] s1 (rV s2) ∧ s2 = s'))) ∧ (∀ x, x < n1 → s' 693 x = (stpS adm way f g (a, ae, b, be) G L).1 x) ∧ Wt s' (stpS adm way f g (a, ae, b, be) G L).2 ∧ ∀ c x, ¬ (693 ≤ c ∧ c ≤ 694) → ¬ (696 ≤ c ∧ c ≤ 699) → ¬ (c = 682 ∧ 17 ≤ x ∧ x ≤ 22) → s' c x = σ c x := by
  have c1 := R.1
  have c2 := R.2.1
  obtain ⟨p, hp⟩ : ∃ p, p = hd f g a ae b be := ⟨_, rfl⟩
  obtain ⟨q, hq⟩ : ∃ q, q = tl f g (a + p) ae (b + p) be := ⟨_, rfl⟩
  rw [stp_m hw hp hq]
  have bp := hd_b (f := f) (g := g) (a := a) (ae := ae) (b := b) (be := be)
  rw [← hp] at bp
  have bq := tl_b (f := f) (g := g) (a := a + p) (ae := ae) (b := b + p) (be := be)
  rw [← hq] at bq
  obtain ⟨s1, p1, M1, v1, f1⟩ := d268 R M ha hb h1 h2 hG hp hq
  obtain ⟨i, hi⟩ : ∃ i, i = a + p := ⟨_, rfl⟩
  obtain ⟨j, hj⟩ : ∃ j, j = b + p := ⟨_, rfl⟩
  obtain ⟨ie, hie⟩ : ∃ ie, ie = ae - q := ⟨_, rfl⟩
  obtain ⟨je, hje⟩ : ∃ je, je = be - q := ⟨_, rfl⟩
  rw [← hie, ← hje] at v1
  rw [← hi, ← hj, ← hie, ← hje] at M1
  rw [← hi, ← hj, ← hie, ← hje]
  generalize pr ie je q (pr a b p G) = G1 at v1 ⊢
  have R1 : MRw s1 f g n1 n2 := ⟨R.1, R.2.1, fun x hx => by rw [f1 _ _ (by omega) (by omega)]; exact R.2.2.1 x hx, fun x hx => by rw [f1 _ _ (by omega) (by omega)]; exact R.2.2.2 x hx⟩
  have W1 : Wt s1 L := Wt_fr (f1 _ _ (by omega) (by omega)) (fun x => f1 _ _ (by omega) (by omega)) hW
  by_cases y1 : way = 1
  · obtain ⟨s2, e1, e2, e3, e4⟩ := d272 (G := G1) (L := L) R1 M1 (show i ≤ ie by omega) (show j ≤ je by omega) (by omega) (by omega) v1 W1 (by omega)
    have hm : mid adm way f g i ie j je G1 L = if lgs (ptn f g i ie j je) ie (ie - i) = 0 then (wk f g ie je ((ie - i) + (je - j)) i j G1, L) else unq adm f g i ie j je G1 L := by
      unfold mid
      rw [if_pos y1]
    refine ⟨s2, ⟨s1, p1, by rw [if_pos y1]; exact ⟨_, e1, rfl⟩⟩, fun x hx => ?_, ?_, fun c x h h' h'' => by rw [e4 c x h h' (by omega), f1 c x (by omega) (by omega)]⟩
    · rw [e2 x hx, hm]
      by_cases y2 : lgs (ptn f g i ie j je) ie (ie - i) = 0
      · rw [if_pos y2, if_pos y2]
      · rw [if_neg y2, if_neg y2]
    · rw [hm]
      by_cases y2 : lgs (ptn f g i ie j je) ie (ie - i) = 0
      · rw [if_pos y2] at e3 ⊢
        exact e3
      · rw [if_neg y2] at e3 ⊢
        exact e3
  · obtain ⟨s2, e1, e2, e3, e4⟩ := d273 (G := G1) (L := L) R1 M1 (show i ≤ ie by omega) (show j ≤ je by omega) (by omega) (by omega) v1 W1 (by omega)
    have hm : mid adm way f g i ie j je G1 L = if rst f g i ie j je = -1 then (wk f g ie je ((ie - i) + (je - j)) i j G1, L) else rrr adm f g i ie j je G1 L := by
      unfold mid
      rw [if_neg y1]
    refine ⟨s2, ⟨s1, p1, by rw [if_neg y1]; exact ⟨_, e1, rfl⟩⟩, fun x hx => ?_, ?_, fun c x h h' h'' => by rw [e4 c x h (by omega) (by omega), f1 c x (by omega) (by omega)]⟩
    · rw [e2 x hx, hm]
      by_cases y2 : rst f g i ie j je = -1
      · rw [if_pos y2, if_pos y2]
      · rw [if_neg y2, if_neg y2]
    · rw [hm]
      by_cases y2 : rst f g i ie j je = -1
      · rw [if_pos y2] at e3 ⊢
        exact e3
      · rw [if_neg y2] at e3 ⊢
        exact e3
end
