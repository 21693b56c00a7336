/-! All stretches, on both sides. -/
noncomputable section
theorem fl4_at {l : List St} {h : Nat} {q : St} (hq : l[h]? = some q) : lat (fl4 l) ((4 * h : Nat) : Int) = (q.1 : Int) ∧ lat (fl4 l) ((4 * h + 1 : Nat) : Int) = (q.2.1 : Int) ∧ lat (fl4 l) ((4 * h + 2 : Nat) : Int) = (q.2.2.1 : Int) ∧ lat (fl4 l) ((4 * h + 3 : Nat) : Int) = (q.2.2.2 : Int) := by
  obtain ⟨e1, e2, e3, e4⟩ := fl4_get l h q hq
  have up : ∀ n : Nat, lat (fl4 l) (n : Int) = ((fl4 l)[n]?).getD (-1) := fun n => by
    unfold lat
    rw [if_pos (by omega), tn]
  rw [up, up, up, up, e1, e2, e3, e4]
  exact ⟨rfl, rfl, rfl, rfl⟩
/-- the class: a stretch, by any way -/
theorem d2x {σ0 : Sg} {f g G : Nat → Int} {n1 n2 a ae b be : Nat} {L : List St} {way : Int} (C : CR σ0 f g n1 n2) (ha : a ≤ ae) (hb : b ≤ be) (h1 : ae ≤ n1) (h2 : be ≤ n2) (hG : ∀ x, x < n1 → σ0 338 x = G x) (hR : Rw σ0 343 (fl4 L)) (hl : L.length + (ae - a) + 2 ≤ 160) : ∃ s, (if way = 0 then Dd 24 [vA 332, vI a, vI ae, vI b, vI be] σ0 (rV s) else Dd 25 [vA 332, vI a, vI ae, vI b, vI be, vI way] σ0 (rV s)) ∧ (∀ x, x < n1 → s 338 x = (stpS ads way f g (a, ae, b, be) G L).1 x) ∧ Rw s 343 (fl4 (stpS ads way f g (a, ae, b, be) G L).2) ∧ (WC σ0 → WC s) ∧ ∀ c x, ¬ (338 ≤ c ∧ c ≤ 344) → ¬ c = 349 → s c x = σ0 c x := by
  by_cases y : way = 0
  · subst y
    rw [stp_0]
    obtain ⟨s, e1, e2, e3, e4⟩ := d24s (G := G) (L := L) C ha hb h1 h2 hG hR
    exact ⟨s, by rw [if_pos rfl]; exact e1, e2, e3, fun hc => WC_fr (e4 _ _ (by decide) (by decide)) (e4 _ _ (by decide) (by decide)) hc, fun c x h h' => e4 c x (by omega) h'⟩
  · obtain ⟨s, e1, e2, e3, e4, e5⟩ := d25 (G := G) (L := L) C ha hb h1 h2 hG hR hl y
    exact ⟨s, by rw [if_neg y]; exact e1, e2, e3, e4, e5⟩
theorem l15 {σ0 : Sg} {f g : Nat → Int} {n1 n2 : Nat} {way : Int} {d1 d2 : Option AV} (C0 : CR σ0 f g n1 n2) : ∀ (m : Nat) (D T : List St) (G : Nat → Int) (σ : Sg), ms T ≤ m → D.length + ms T ≤ 81 → PS 40 T → (∀ r, r ∈ T → nef r = true ∧ r.2.1 ≤ n1 ∧ r.2.2.2 ≤ n2) → WC σ → (∀ x, x < n1 → σ 338 x = G x) → Rw σ 343 (fl4 (D ++ T)) → (∀ c x, ¬ (338 ≤ c ∧ c ≤ 344) → ¬ c = 349 → σ c x = σ0 c x) → ∃ s, (∀ d5 d6 d7 d8, C15_29 d1 d2 way (D.length : Nat) d5 d6 d7 d8 σ (rA 337 s)) ∧ (∀ x, x < n1 → s 338 x = (T.foldl (fun G r => fnl way f g 40 r G) G) x) ∧ WC s ∧ (∃ L, Rw s 343 (fl4 L) ∧ L.length ≤ 160) ∧ ∀ c x, ¬ (338 ≤ c ∧ c ≤ 344) → ¬ c = 349 → s c x = σ0 c x := by
  obtain ⟨-, -, -, -, -, -, r343, c343⟩ := cpC
  have stop : ∀ (D : List St) (G : Nat → Int) (σ : Sg), D.length ≤ 81 → WC σ → (∀ x, x < n1 → σ 338 x = G x) → Rw σ 343 (fl4 (D ++ [])) → (∀ c x, ¬ (338 ≤ c ∧ c ≤ 344) → ¬ c = 349 → σ c x = σ0 c x) → ∃ s, (∀ d5 d6 d7 d8, C15_29 d1 d2 way (D.length : Nat) d5 d6 d7 d8 σ (rA 337 s)) ∧ (∀ x, x < n1 → s 338 x = (([] : List St).foldl (fun G r => fnl way f g 40 r G) G) x) ∧ WC s ∧ (∃ L, Rw s 343 (fl4 L) ∧ L.length ≤ 160) ∧ ∀ c x, ¬ (338 ≤ c ∧ c ≤ 344) → ¬ c = 349 → s c x = σ0 c x := by
    intro D G σ hD hw hG hR hF
    have e146 := d146 (σ := σ) r343
    rw [hR.1, fl4_len, List.append_nil] at e146
    refine ⟨σ, fun d5 d6 d7 d8 => b15_29 ?_, hG, hw, ⟨_, hR, by rw [List.append_nil]; omega⟩, hF⟩
    rw [if_pos (by omega)]
    refine ⟨by omega, _, _, e146, ?_⟩
    rw [if_neg (by omega)]
    exact b15_147 rfl
  intro m
  induction m with
  | zero =>
    intro D T G σ hm h81 P hn hw hG hR hF
    cases T with
    | nil => exact stop D G σ (by omega) hw hG hR hF
    | cons q T =>
      exfalso
      have : 2 * (q.2.1 - q.1) + 1 + ms T ≤ 0 := hm
      omega
  | succ m ih =>
    intro D T G σ hm h81 P hn hw hG hR hF
    cases T with
    | nil => exact stop D G σ (by omega) hw hG hR hF
    | cons q T =>
      obtain ⟨q1, q2, q3⟩ := hn q List.mem_cons_self
      have hne := of_decide_eq_true q1
      obtain ⟨s1', s2', s3'⟩ := cls_step (way := way) (f := f) (g := g) (G := G) P hne
      have hq0 : (D ++ q :: T)[D.length]? = some q := by
        rw [List.getElem?_append_right (Nat.le_refl _), Nat.sub_self]
        rfl
      have hmq : ms (q :: T) = 2 * (q.2.1 - q.1) + 1 + ms T := rfl
      have hTl := ms_len T
      have hlen : (D ++ q :: T).length = D.length + (T.length + 1) := by rw [List.length_append, List.length_cons]
      obtain ⟨a, ae, b, be⟩ := q
      have y1 : a < ae := hne.1
      have y2 : b < be := hne.2
      have q2 : ae ≤ n1 := q2
      have q3 : be ≤ n2 := q3
      have n40 := C0.1
      have n40' := C0.2.1
      have hmq : ms ((a, ae, b, be) :: T) = 2 * (ae - a) + 1 + ms T := hmq
      have C : CR σ f g n1 n2 := by
        obtain ⟨h1, h2, w1, w2, w3, z1, z2, z3, hf, hg⟩ := C0
        exact ⟨h1, h2, ⟨w1.1, by rw [hF _ _ (by decide) (by decide)]; exact w1.2⟩, ⟨w2.1, by rw [hF _ _ (by decide) (by decide)]; exact w2.2⟩, ⟨w3.1, by rw [hF _ _ (by decide) (by decide)]; exact w3.2⟩, by rw [hF _ _ (by decide) (by decide)]; exact z1, by rw [hF _ _ (by decide) (by decide)]; exact z2, by rw [hF _ _ (by decide) (by decide)]; exact z3, fun i hi => by rw [hF _ _ (by decide) (by decide)]; exact hf i hi, fun i hi => by rw [hF _ _ (by decide) (by decide)]; exact hg i hi⟩
      obtain ⟨v1, v2, v3, v4⟩ := fl4_at hq0
      have v1 : lat (fl4 (D ++ (a, ae, b, be) :: T)) ((4 * D.length : Nat) : Int) = (a : Int) := v1
      have v2 : lat (fl4 (D ++ (a, ae, b, be) :: T)) ((4 * D.length + 1 : Nat) : Int) = (ae : Int) := v2
      have v3 : lat (fl4 (D ++ (a, ae, b, be) :: T)) ((4 * D.length + 2 : Nat) : Int) = (b : Int) := v3
      have v4 : lat (fl4 (D ++ (a, ae, b, be) :: T)) ((4 * D.length + 3 : Nat) : Int) = (be : Int) := v4
      have wr := Rw_wR r343 hR (by rw [fl4_len, c343]; omega)
      have p1 := d147 (i := ((4 * D.length : Nat) : Int)) wr
      rw [atS_l hR, v1] at p1
      have p2 := d147 (i := ((4 * D.length + 1 : Nat) : Int)) wr
      rw [atS_l hR, v2] at p2
      have p3 := d147 (i := ((4 * D.length + 2 : Nat) : Int)) wr
      rw [atS_l hR, v3] at p3
      have p4 := d147 (i := ((4 * D.length + 3 : Nat) : Int)) wr
      rw [atS_l hR, v4] at p4
      have e146 := d146 (σ := σ) r343
      rw [hR.1, fl4_len] at e146
      obtain ⟨s1, e1, e2, e3, ew, e4⟩ := d2x (way := way) (a := a) (ae := ae) (b := b) (be := be) (L := D ++ (a, ae, b, be) :: T) (G := G) C (by omega) (by omega) q2 q3 hG hR (by omega)
      rw [stp_e, foldl_ads] at e3
      rw [stp_e] at e2
      have eL : (D ++ (a, ae, b, be) :: T) ++ (stK way f g (a, ae, b, be)).filter nef = (D ++ [(a, ae, b, be)]) ++ (T ++ (stK way f g (a, ae, b, be)).filter nef) := by simp
      have e3 : Rw s1 343 (fl4 ((D ++ (a, ae, b, be) :: T) ++ (stK way f g (a, ae, b, be)).filter nef)) := e3
      rw [eL] at e3
      have hD1 : (D ++ [(a, ae, b, be)]).length = D.length + 1 := by simp
      have hkf := (kid_f (way := way) (f := f) (g := g) (q := (a, ae, b, be)) ⟨by show a ≤ ae; omega, by show b ≤ be; omega⟩).1
      obtain ⟨s, z1, z2, z3, z4, z5⟩ := ih (D ++ [(a, ae, b, be)]) (T ++ (stK way f g (a, ae, b, be)).filter nef) (stG way f g (a, ae, b, be) G) s1 (by omega) (by omega) s2' (fun r hr => by
        rcases List.mem_append.mp hr with h | h
        · exact hn r (List.mem_cons_of_mem _ h)
        · obtain ⟨h1, h2⟩ := List.mem_filter.mp h
          have k := hkf r h1
          have k3 : r.2.1 ≤ ae := k.2.2.1
          have k5 : r.2.2.2 ≤ be := k.2.2.2.2.1
          exact ⟨h2, by omega, by omega⟩) (ew hw) e2 e3 (fun c x h h' => by rw [e4 c x h h']; exact hF c x h h')
      refine ⟨s, fun d5 d6 d7 d8 => b15_29 ?_, fun x hx => by rw [z2 x hx, s1'], z3, z4, z5⟩
      have E0 : 4 * ((D.length : Nat) : Int) = ((4 * D.length : Nat) : Int) := by omega
      have E1 : ((4 * D.length : Nat) : Int) + 1 = ((4 * D.length + 1 : Nat) : Int) := by omega
      have E2 : ((4 * D.length : Nat) : Int) + 2 = ((4 * D.length + 2 : Nat) : Int) := by omega
      have E3 : ((4 * D.length : Nat) : Int) + 3 = ((4 * D.length + 3 : Nat) : Int) := by omega
      rw [if_pos (by omega), E0, E1, E2, E3]
      refine ⟨by omega, _, _, e146, ?_⟩
      rw [if_pos (by omega)]
      refine ⟨by omega, _, _, p1, by omega, by omega, _, _, p2, by omega, by omega, _, _, p3, by omega, by omega, _, _, p4, ?_⟩
      have go : ∀ d5 d6 d7 d8, C15_141 d1 d2 way (D.length : Nat) d5 d6 d7 d8 s1 (rA 337 s) := fun d5 d6 d7 d8 => b15_141 ⟨by omega, by
        rw [show ((D.length : Nat) : Int) + 1 = (((D ++ [(a, ae, b, be)]).length : Nat) : Int) by omega]
        exact z1 d5 d6 d7 d8⟩
      by_cases y0 : way = 0
      · rw [if_pos y0] at e1 ⊢
        exact ⟨_, e1, go _ _ _ _⟩
      · rw [if_neg y0] at e1 ⊢
        exact ⟨_, e1, go _ _ _ _⟩
theorem rows_33b : ∀ a : Nat, a < 350 → (!(decide (333 ≤ a) && isRow a) || (decide (a = 333 ∨ a = 335 ∨ a = 337 ∨ a = 339) || decide (a = 341 ∨ a = 343 ∨ a = 345 ∨ a = 347))) = true := by decide +kernel
theorem rows_33 : ∀ a : Nat, a < 350 → 333 ≤ a → isRow a = true → a = 333 ∨ a = 335 ∨ a = 337 ∨ a = 339 ∨ a = 341 ∨ a = 343 ∨ a = 345 ∨ a = 347 := by
  intro a h1 h2 h3
  have z := rows_33b a h1
  rw [h3, decide_eq_true h2] at z
  simp only [Bool.and_self, Bool.not_true, Bool.false_or, Bool.or_eq_true, decide_eq_true_eq] at z
  omega
theorem cpC3 : isRow 333 = true ∧ isRow 335 = true ∧ isRow 337 = true := by decide +kernel
/-- match -/
theorem d15 {σ : Sg} {x1 x2 n1 n2 : Nat} {way : Int} (w : WF σ) (w1 : isRow x1 = true) (w2 : isRow x2 = true) (z1 : σ x1 1 = (n1 : Nat)) (z2 : σ x2 1 = (n2 : Nat)) (h1 : n1 ≤ 40) (h2 : n2 ≤ 40) (e1 : x1 < 332 ∨ 344 < x1) (e2 : x2 < 332 ∨ 344 < x2) : ∃ s, Dd 15 [vA 332, vA x1, vA x2, vI way] σ (rA 337 s) ∧ WF s ∧ s 337 1 = (n1 : Nat) ∧ (∀ i, i < n1 → s 338 i = mtc way (σ (x1 + 1)) (σ (x2 + 1)) n1 n2 i) ∧ ∀ c k, ¬ (333 ≤ c ∧ c ≤ 344) → ¬ c = 349 → s c k = σ c k := by
  obtain ⟨r333, c333, r335, c335, r337, c337, r343, c343⟩ := cpC
  obtain ⟨r339, c339, r341, c341⟩ := cpC2
  obtain ⟨s1, a1, W, a2, a3, a4, a5, a6, a7, a8, a9⟩ := d19 w w1 w2 z1 z2 h1 h2 e1 e2
  have q1 := d146 (σ := s1) r333
  rw [a2] at q1
  have q2 := d146 (σ := s1) r335
  rw [a3] at q2
  obtain ⟨s2, p1, p2, p3⟩ := d20 (σ := s1) (L := []) (a := 0) (k := n1) (b := 0) (j := n2) ⟨by rw [a5]; rfl, fun i v h => by cases h⟩ (by decide)
  have hT : ads [] (0, n1, 0, n2) = [] ++ [((0, n1, 0, n2) : St)].filter nef := foldl_ads [(0, n1, 0, n2)] []
  rw [hT] at p2
  have C : CR s2 (σ (x1 + 1)) (σ (x2 + 1)) n1 n2 := ⟨h1, h2, ⟨r333, by rw [p3 _ _ (by decide) (by decide), a2, c333]; omega⟩, ⟨r335, by rw [p3 _ _ (by decide) (by decide), a3, c335]; omega⟩, ⟨r337, by rw [p3 _ _ (by decide) (by decide), a4, c337]; omega⟩, by rw [p3 _ _ (by decide) (by decide)]; exact a2, by rw [p3 _ _ (by decide) (by decide)]; exact a3, by rw [p3 _ _ (by decide) (by decide)]; exact a4, fun i hi => by rw [p3 _ _ (by decide) (by decide)]; exact a6 i hi, fun i hi => by rw [p3 _ _ (by decide) (by decide)]; exact a7 i hi⟩
  have hWC : WC s2 := by
    have u1 := W 339 r339
    have u2 := W 341 r341
    rw [c339] at u1
    rw [c341] at u2
    refine WC_fr (σ := s1) (p3 _ _ (by decide) (by decide)) (p3 _ _ (by decide) (by decide)) ⟨?_, ?_⟩
    · omega
    · omega
  have inF : ∀ r, r ∈ [((0, n1, 0, n2) : St)].filter nef → r = (0, n1, 0, n2) ∧ nef r = true := fun r hr => by
    obtain ⟨h1, h2⟩ := List.mem_filter.mp hr
    exact ⟨by simpa using h1, h2⟩
  have hms : ms ([((0, n1, 0, n2) : St)].filter nef) ≤ 81 := by
    have := ms_flt [((0, n1, 0, n2) : St)]
    have e : ms [((0, n1, 0, n2) : St)] = 2 * (n1 - 0) + 1 + 0 := rfl
    omega
  obtain ⟨s, g1, g2, g3, ⟨L, g4, g5⟩, g6⟩ := l15 (d1 := some (vA x1)) (d2 := some (vA x2)) (way := way) C 81 [] ([((0, n1, 0, n2) : St)].filter nef) (fun _ => -1) s2 hms (by show 0 + _ ≤ 81; omega) ⟨fun r hr => by
    rw [(inF r hr).1]
    exact ⟨⟨Nat.zero_le _, Nat.zero_le _⟩, by show n1 - 0 ≤ 40; omega⟩, List.Pairwise.sublist List.filter_sublist (List.pairwise_singleton _ _)⟩ (fun r hr => by
    obtain ⟨e, e'⟩ := inF r hr
    refine ⟨e', ?_⟩
    rw [e]
    exact ⟨Nat.le_refl _, Nat.le_refl _⟩) hWC (fun x hx => by rw [p3 _ _ (by decide) (by decide)]; exact a8 x hx) p2 (fun _ _ _ _ => rfl)
  have F : ∀ c k, ¬ (333 ≤ c ∧ c ≤ 344) → ¬ c = 349 → s c k = σ c k := fun c k y1 y2 => by rw [g6 c k (by omega) y2, p3 c k (by omega) (by omega), a9 c k (by omega) (by omega)]
  have F3 : ∀ c k, 333 ≤ c → c ≤ 337 → s c k = s1 c k := fun c k y1 y2 => by rw [g6 c k (by omega) (by omega), p3 c k (by omega) (by omega)]
  refine ⟨s, b15 ⟨_, a1, _, _, q1, _, _, q2, _, p1, g1 _ _ _ _⟩, fun a ha => ?_, by rw [F3 _ _ (by decide) (by decide)]; exact a4, fun i hi => ?_, F⟩
  · by_cases y : 333 ≤ a ∧ a < 350
    · rcases rows_33 a y.2 y.1 ha with e | e | e | e | e | e | e | e
      · subst e; rw [F3 _ _ (by decide) (by decide)]; exact W _ ha
      · subst e; rw [F3 _ _ (by decide) (by decide)]; exact W _ ha
      · subst e; rw [F3 _ _ (by decide) (by decide)]; exact W _ ha
      · subst e; rw [c339]; exact g3.1
      · subst e; rw [c341]; exact g3.2
      · subst e
        rw [c343, g4.1, fl4_len]
        omega
      · subst e; rw [F _ _ (by decide) (by decide)]; exact w _ ha
      · subst e; rw [F _ _ (by decide) (by decide)]; exact w _ ha
    · rw [F _ _ (by omega) (by omega)]
      exact w a ha
  · rw [g2 i hi, fld_flt]
    rfl
/-- how many are paired -/
theorem cnt_np {F : Nat → Int} : ∀ (d k : Nat), cnt F (-1) k d ≤ (d : Int) := fun d k => (cnt_b d k).2
theorem nil_or_snoc : ∀ l : List St, l = [] ∨ ∃ T q, l = T ++ [q] := by
  intro l
  induction l with
  | nil => exact Or.inl rfl
  | cons a t ih =>
    right
    rcases ih with e | ⟨T, q, e⟩
    · exact ⟨[], a, by rw [e]; rfl⟩
    · exact ⟨a :: T, q, by rw [e]; rfl⟩
/-- the reference: all stretches that wait -/
theorem l274 {σ0 : Sg} {f g : Nat → Int} {n1 n2 : Nat} {way : Int} {d2 d3 : Option AV} (R0 : MRw σ0 f g n1 n2) : ∀ (m : Nat) (T : List St) (G : Nat → Int) (σ : Sg), ms T ≤ m → ms T ≤ 81 → PS 40 T → (∀ r, r ∈ T → r.2.1 ≤ n1 ∧ r.2.2.2 ≤ n2) → (∀ x, x < n1 → σ 693 x = G x) → Wt σ T → (∀ c x, ¬ (693 ≤ c ∧ c ≤ 694) → ¬ (696 ≤ c ∧ c ≤ 699) → ¬ (c = 682 ∧ 17 ≤ x ∧ x ≤ 22) → σ c x = σ0 c x) → ∃ s, (∀ {o : Rs}, C274_163 (some (vI way)) 0 0 s o → C274_42 way d2 d3 σ o) ∧ (∀ x, x < n1 → s 693 x = (T.foldl (fun G r => fnl way f g 40 r G) G) x) ∧ ∀ c x, ¬ (693 ≤ c ∧ c ≤ 694) → ¬ (696 ≤ c ∧ c ≤ 699) → ¬ (c = 682 ∧ 17 ≤ x ∧ x ≤ 22) → s c x = σ0 c x := by
  intro m
  induction m with
  | zero =>
    intro T G σ hm h81 P hn hG hW hF
    have hl := ms_len T
    have e : T = [] := List.eq_nil_of_length_eq_zero (by omega)
    subst e
    refine ⟨σ, fun {o} hh => b274_42 ?_, hG, hF⟩
    rw [hW.1]
    rw [if_neg (by show ¬ (0 : Int) < ((0 : Nat) : Int); omega)]
    exact hh
  | succ m ih =>
    intro T G σ hm h81 P hn hG hW hF
    rcases nil_or_snoc T with e | ⟨T', q, e⟩
    · subst e
      refine ⟨σ, fun {o} hh => b274_42 ?_, hG, hF⟩
      rw [hW.1]
      rw [if_neg (by show ¬ (0 : Int) < ((0 : Nat) : Int); omega)]
      exact hh
    · subst e
      obtain ⟨s1', s2', s3'⟩ := ref_step (way := way) (f := f) (g := g) (G := G) P
      have hq := (P.1 q (List.mem_append.mpr (Or.inr List.mem_cons_self))).1
      have hr := hn q (List.mem_append.mpr (Or.inr List.mem_cons_self))
      obtain ⟨hW1, hW2⟩ := hW
      have hlen : (T' ++ [q]).length = T'.length + 1 := by simp
      have hT'l := ms_len T'
      have hmq : ms (T' ++ [q]) = ms T' + (2 * (q.2.1 - q.1) + 1 + 0) := ms_app T' [q]
      have hkf := (kid_f (way := way) (f := f) (g := g) hq).1
      have hlast := hW2 T'.length q (by rw [List.getElem?_append_right (Nat.le_refl _), Nat.sub_self]; rfl)
      have hpre : ∀ h r, T'[h]? = some r → σ 696 (4 * h) = (r.1 : Nat) ∧ σ 696 (4 * h + 1) = (r.2.1 : Nat) ∧ σ 696 (4 * h + 2) = (r.2.2.1 : Nat) ∧ σ 696 (4 * h + 3) = (r.2.2.2 : Nat) := fun h r hh => hW2 h r (by rw [List.getElem?_append_left (List.getElem?_eq_some_iff.mp hh).1]; exact hh)
      rw [hlen] at hW1
      obtain ⟨a, ae, b, be⟩ := q
      obtain ⟨ha, hb⟩ := hq
      have ha : a ≤ ae := ha
      have hb : b ≤ be := hb
      obtain ⟨hr1, hr2⟩ := hr
      have hr1 : ae ≤ n1 := hr1
      have hr2 : be ≤ n2 := hr2
      have hmq : ms (T' ++ [(a, ae, b, be)]) = ms T' + (2 * (ae - a) + 1 + 0) := hmq
      obtain ⟨v1, v2, v3, v4⟩ := hlast
      have v1 : σ 696 (4 * T'.length) = (a : Int) := v1
      have v2 : σ 696 (4 * T'.length + 1) = (ae : Int) := v2
      have v3 : σ 696 (4 * T'.length + 2) = (b : Int) := v3
      have v4 : σ 696 (4 * T'.length + 3) = (be : Int) := v4
      obtain ⟨k, hk⟩ : ∃ k, k = T'.length := ⟨_, rfl⟩
      rw [← hk] at v1 v2 v3 v4 hW1
      have n40 := R0.1
      have n40' := R0.2.1
      obtain ⟨S5, hS5⟩ : ∃ S5 : Sg, S5 = upS (upS (upS (upS (upS σ 682 22 ((k : Nat) : Int)) 682 17 ((a : Nat) : Int)) 682 18 ((ae : Nat) : Int)) 682 19 ((b : Nat) : Int)) 682 20 ((be : Nat) : Int) := ⟨_, rfl⟩
      have S5o : ∀ c x, ¬ (c = 682 ∧ 17 ≤ x ∧ x ≤ 22) → S5 c x = σ c x := fun c x h => by
        rw [hS5]
        unfold upS
        rw [if_neg (by omega), if_neg (by omega), if_neg (by omega), if_neg (by omega), if_neg (by omega)]
      have M5 : MS S5 a ae b be := by
        rw [hS5]
        exact ⟨by rw [up_k (by decide), up_k (by decide), up_k (by decide), up_s], by rw [up_k (by decide), up_k (by decide), up_s], by rw [up_k (by decide), up_s], by rw [up_s]⟩
      have W5 : Wt S5 T' := ⟨by rw [hS5, up_k (by decide), up_k (by decide), up_k (by decide), up_k (by decide), up_s, hk], fun h r hh => by rw [S5o _ _ (by omega), S5o _ _ (by omega), S5o _ _ (by omega), S5o _ _ (by omega)]; exact hpre h r hh⟩
      have R5 : MRw S5 f g n1 n2 := ⟨n40, n40', fun i hi => by rw [S5o _ _ (by omega), hF _ _ (by decide) (by decide) (by omega)]; exact R0.2.2.1 i hi, fun i hi => by rw [S5o _ _ (by omega), hF _ _ (by decide) (by decide) (by omega)]; exact R0.2.2.2 i hi⟩
      have G5 : ∀ x, x < n1 → S5 693 x = G x := fun x hx => by rw [S5o _ _ (by omega)]; exact hG x hx
      -- one stretch
      have one : ∃ s', (∀ {o : Rs}, C274_42 way d2 d3 s' o → (if way = 0 then (∃ (s13 : Sg), Dd 266 [vA 682] S5 (rV s13) ∧ C274_42 way d2 d3 s13 o) else (∃ (s15 : Sg), Dd 268 [vA 682] S5 (rV s15) ∧ (if way = 1 then (∃ (s17 : Sg), Dd 272 [vA 682] s15 (rV s17) ∧ C274_42 way d2 d3 s17 o) else (∃ (s19 : Sg), Dd 273 [vA 682] s15 (rV s19) ∧ C274_42 way d2 d3 s19 o))))) ∧ (∀ x, x < n1 → s' 693 x = stG way f g (a, ae, b, be) G x) ∧ Wt s' (T' ++ stK way f g (a, ae, b, be)) ∧ ∀ c x, ¬ (693 ≤ c ∧ c ≤ 694) → ¬ (696 ≤ c ∧ c ≤ 699) → ¬ (c = 682 ∧ 17 ≤ x ∧ x ≤ 22) → s' c x = S5 c x := by
        by_cases y0 : way = 0
        · obtain ⟨s', e1, e2, e3⟩ := d266 (σ0 := S5) (G := G) (f := f) (g := g) ha hb hr1 hr2 (by omega) (by omega) M5.1 M5.2.1 M5.2.2.1 M5.2.2.2 R5.2.2.1 R5.2.2.2 G5
          have eK : stK way f g (a, ae, b, be) = [] := by
            unfold stK
            rw [if_pos y0]
          have eG : stG way f g (a, ae, b, be) G = wk f g ae be ((ae - a) + (be - b)) a b G := by
            unfold stG
            rw [if_pos y0]
          rw [eK, eG, List.append_nil]
          refine ⟨s', fun {o} hh => ?_, e2, Wt_fr (e3 _ _ (by decide) (by decide)) (fun x => e3 _ _ (by decide) (by decide)) W5, fun c x h _ _ => e3 c x (by omega) (by omega)⟩
          rw [if_pos y0]
          exact ⟨_, e1, hh⟩
        · obtain ⟨s', ⟨s1, e0, e1⟩, e2, e3, e4⟩ := d268s (way := way) (L := T') R5 M5 ha hb hr1 hr2 G5 W5 (by omega) y0
          rw [stp_e] at e2
          rw [stp_e, foldl_adm] at e3
          refine ⟨s', fun {o} hh => ?_, e2, e3, e4⟩
          rw [if_neg y0]
          refine ⟨_, e0, ?_⟩
          by_cases y1 : way = 1
          · rw [if_pos y1] at e1 ⊢
            obtain ⟨s2, e5, e6⟩ := e1
            subst e6
            exact ⟨_, e5, hh⟩
          · rw [if_neg y1] at e1 ⊢
            obtain ⟨s2, e5, e6⟩ := e1
            subst e6
            exact ⟨_, e5, hh⟩
      obtain ⟨s', o1, o2, o3, o4⟩ := one
      obtain ⟨s, g1, g2, g3⟩ := ih (T' ++ stK way f g (a, ae, b, be)) (stG way f g (a, ae, b, be) G) s' (by omega) (by omega) s2' (fun r hr => by
        rcases List.mem_append.mp hr with h | h
        · exact hn r (List.mem_append.mpr (Or.inl h))
        · have z := hkf r h
          have k3 : r.2.1 ≤ ae := z.2.2.1
          have k5 : r.2.2.2 ≤ be := z.2.2.2.2.1
          omega) o2 o3 (fun c x h h' h'' => by rw [o4 c x h h' h'', S5o c x h'']; exact hF c x h h' h'')
      refine ⟨s, fun {o} hh => b274_42 ?_, fun x hx => by rw [g2 x hx, s1'], g3⟩
      have T0 : (4 * ((k : Nat) : Int)).toNat = 4 * k := by omega
      have T1 : ((4 * ((k : Nat) : Int)) + 1).toNat = 4 * k + 1 := by omega
      have T2 : ((4 * ((k : Nat) : Int)) + 2).toNat = 4 * k + 2 := by omega
      have T3 : ((4 * ((k : Nat) : Int)) + 3).toNat = 4 * k + 3 := by omega
      have Em : ((k + 1 : Nat) : Int) - 1 = ((k : Nat) : Int) := by omega
      rw [hW1, if_pos (by omega), Em]
      simp only [up_s, up_k (show ¬ (22 : Nat) = 17 by decide), up_k (show ¬ (22 : Nat) = 18 by decide), up_k (show ¬ (22 : Nat) = 19 by decide), up_a (show ¬ (696 : Nat) = 682 by decide), T0, T1, T2, T3, v1, v2, v3, v4]
      rw [← hS5]
      exact ⟨by omega, by omega, by omega, by omega, by omega, by omega, by omega, by omega, by omega, by omega, by omega, by omega, o1 (g1 hh)⟩
theorem l274a {way : Int} {n1 : Nat} {d3 : Option AV} {o : Rs} (h40 : n1 ≤ 40) : ∀ (d i : Nat) (σ : Sg), i + d = n1 → σ 682 12 = (n1 : Nat) → (∀ x, x < i → σ 693 x = -1) → (∀ s : Sg, (∀ c x, ¬ c = 693 → s c x = σ c x) → (∀ x, x < n1 → s 693 x = -1) → C274_2 way n1 d3 s o) → C274_2 way i d3 σ o := by
  intro d
  induction d with
  | zero =>
    intro i σ hi hn hv hh
    have z := hh σ (fun _ _ _ => rfl) (fun x hx => hv x (by omega))
    rw [show i = n1 by omega]
    exact z
  | succ d ih =>
    intro i σ hi hn hv hh
    refine b274_2 ?_
    rw [hn, if_pos (by omega), tn, show (i : Int) + 1 = ((i + 1 : Nat) : Int) by omega]
    refine ⟨by omega, by omega, ih (i + 1) (upS σ 693 i (-1)) (by omega) (by rw [up_a (by decide)]; exact hn) (fun x hx => ?_) (fun s h1 h2 => hh s (fun c x hc => by rw [h1 c x hc, up_a hc]) h2)⟩
    by_cases y : x = i
    · rw [y, up_s]
    · rw [up_k y]
      exact hv x (by omega)
theorem l274c {n1 : Nat} {d1 : Option AV} {F : Nat → Int} {σ : Sg} (h40 : n1 ≤ 40) (hn : σ 682 12 = (n1 : Nat)) (hF : ∀ x, x < n1 → σ 693 x = F x) : ∀ (d k : Nat) (acc : Int), k + d = n1 → 0 ≤ acc → acc ≤ (k : Int) → C274_163 d1 acc k σ (rI (acc + ((d : Int) - cnt F (-1) k d)) σ) := by
  intro d
  induction d with
  | zero =>
    intro k acc hk h0 h1
    refine b274_163 ?_
    rw [hn, if_neg (by omega), show cnt F (-1) k 0 = 0 from rfl, show acc + (((0 : Nat) : Int) - 0) = acc by omega]
  | succ d ih =>
    intro k acc hk h0 h1
    have e : cnt F (-1) k (d + 1) = (if F k = -1 then (1 : Int) else 0) + cnt F (-1) (k + 1) d := rfl
    refine b274_163 ?_
    rw [hn, if_pos (by omega), tn, hF k (by omega), e]
    refine ⟨by omega, b274_187 ?_⟩
    rw [show (k : Int) + 1 = ((k + 1 : Nat) : Int) by omega]
    by_cases y : F k = -1
    · rw [if_pos y, if_pos y, Int.add_zero, show acc + (((d + 1 : Nat) : Int) - (1 + cnt F (-1) (k + 1) d)) = acc + ((d : Int) - cnt F (-1) (k + 1) d) by omega]
      exact ⟨by omega, by omega, ih (k + 1) acc (by omega) h0 (by omega)⟩
    · rw [if_neg y, if_neg y, show acc + (((d + 1 : Nat) : Int) - (0 + cnt F (-1) (k + 1) d)) = acc + 1 + ((d : Int) - cnt F (-1) (k + 1) d) by omega]
      exact ⟨by omega, by omega, ih (k + 1) (acc + 1) (by omega) (by omega) (by omega)⟩
/-- compares -/
theorem d274 {σ : Sg} {f g : Nat → Int} {n1 n2 : Nat} {way : Int} (R : MRw σ f g n1 n2) (m12 : σ 682 12 = (n1 : Nat)) (m13 : σ 682 13 = (n2 : Nat)) : ∃ s, Dd 274 [vA 682, vI way] σ (rI ((n1 : Int) - cnt (mtc way f g n1 n2) (-1) 0 n1) s) ∧ (∀ x, x < n1 → s 693 x = mtc way f g n1 n2 x) ∧ ∀ c x, ¬ (693 ≤ c ∧ c ≤ 694) → ¬ (696 ≤ c ∧ c ≤ 699) → ¬ (c = 682 ∧ 17 ≤ x ∧ x ≤ 22) → s c x = σ c x := by
  have n40 := R.1
  have n40' := R.2.1
  obtain ⟨sA, hA⟩ : ∃ sA : Sg, sA = fun c x => if c = 693 ∧ x < n1 then -1 else σ c x := ⟨_, rfl⟩
  have main : ∀ s : Sg, (∀ c x, ¬ c = 693 → s c x = σ c x) → (∀ x, x < n1 → s 693 x = -1) → ∃ s', C274_2 way n1 none s (rI ((n1 : Int) - cnt (mtc way f g n1 n2) (-1) 0 n1) s') ∧ (∀ x, x < n1 → s' 693 x = mtc way f g n1 n2 x) ∧ ∀ c x, ¬ (693 ≤ c ∧ c ≤ 694) → ¬ (696 ≤ c ∧ c ≤ 699) → ¬ (c = 682 ∧ 17 ≤ x ∧ x ≤ 22) → s' c x = σ c x := by
    intro s h1 h2
    have u1 : upS s 682 22 0 682 12 = (n1 : Nat) := by rw [up_k (by decide), h1 _ _ (by decide)]; exact m12
    have u2 : upS s 682 22 0 682 13 = (n2 : Nat) := by rw [up_k (by decide), h1 _ _ (by decide)]; exact m13
    obtain ⟨s1, p1, w1, f1⟩ := d267 (σ := upS s 682 22 0) (L := []) (a := 0) (k := n1) (b := 0) (j := n2) ⟨by rw [up_s]; rfl, fun h q hq => by cases hq⟩ (by decide)
    have F1 : ∀ c x, ¬ c = 693 → ¬ c = 696 → ¬ (c = 682 ∧ x = 22) → s1 c x = σ c x := fun c x y1 y2 y3 => by
      rw [f1 c x y2 y3]
      have : upS s 682 22 0 c x = s c x := by
        unfold upS
        rw [if_neg y3]
      rw [this]
      exact h1 c x y1
    have R1 : MRw s1 f g n1 n2 := ⟨n40, n40', fun i hi => by rw [F1 _ _ (by decide) (by decide) (by omega)]; exact R.2.2.1 i hi, fun i hi => by rw [F1 _ _ (by decide) (by decide) (by omega)]; exact R.2.2.2 i hi⟩
    have hms : ms ([] ++ [((0, n1, 0, n2) : St)]) = 2 * (n1 - 0) + 1 + 0 := rfl
    obtain ⟨s2, g1, g2, g3⟩ := l274 (way := way) (d2 := some (vI (n1 : Nat))) (d3 := none) R1 81 ([] ++ [((0, n1, 0, n2) : St)]) (fun _ => -1) s1 (by omega) (by omega) ⟨fun r hr => by
      have e : r = (0, n1, 0, n2) := by simpa using hr
      rw [e]
      exact ⟨⟨Nat.zero_le _, Nat.zero_le _⟩, by show n1 - 0 ≤ 40; omega⟩, List.pairwise_singleton _ _⟩ (fun r hr => by
      have e : r = (0, n1, 0, n2) := by simpa using hr
      rw [e]
      exact ⟨Nat.le_refl _, Nat.le_refl _⟩) (fun x hx => by rw [f1 _ _ (by decide) (by omega), up_a (by decide)]; exact h2 x hx) w1 (fun _ _ _ _ _ => rfl)
    have g2 : ∀ x, x < n1 → s2 693 x = mtc way f g n1 n2 x := g2
    have cc := l274c (d1 := some (vI way)) (F := mtc way f g n1 n2) (σ := s2) n40 (by rw [g3 _ _ (by decide) (by decide) (by omega), F1 _ _ (by decide) (by decide) (by omega)]; exact m12) g2 n1 0 0 (by omega) (by omega) (by omega)
    rw [Int.zero_add] at cc
    refine ⟨s2, b274_2 ?_, g2, fun c x y1 y2 y3 => by rw [g3 c x y1 y2 y3]; exact F1 c x (by omega) (by omega) (by omega)⟩
    rw [h1 _ _ (by decide), m12, if_neg (by omega), u1, u2]
    exact ⟨_, p1, g1 cc⟩
  obtain ⟨s', b1, b2, b3⟩ := main sA (fun c x hc => by rw [hA]; show (if c = 693 ∧ x < n1 then (-1 : Int) else σ c x) = σ c x; rw [if_neg (fun e => hc e.1)]) (fun x hx => by rw [hA]; show (if 693 = 693 ∧ x < n1 then (-1 : Int) else σ 693 x) = -1; rw [if_pos ⟨rfl, hx⟩])
  refine ⟨s', b274 ?_, b2, b3⟩
  have key : ∀ (d i : Nat) (s : Sg), i + d = n1 → (∀ c x, s c x = if c = 693 ∧ x < i then -1 else σ c x) → C274_2 way i none s (rI ((n1 : Int) - cnt (mtc way f g n1 n2) (-1) 0 n1) s') := by
    intro d
    induction d with
    | zero =>
      intro i s hi hs
      have e : s = sA := by
        funext c x
        rw [hs, hA, show i = n1 by omega]
      rw [e, show i = n1 by omega]
      exact b1
    | succ d ih =>
      intro i s hi hs
      refine b274_2 ?_
      rw [hs 682 12, if_neg (show ¬ (682 = 693 ∧ 12 < i) by omega), m12, if_pos (by omega), tn, show (i : Int) + 1 = ((i + 1 : Nat) : Int) by omega]
      refine ⟨by omega, by omega, ih (i + 1) _ (by omega) (fun c x => ?_)⟩
      by_cases y : c = 693
      · subst y
        by_cases y2 : x = i
        · rw [y2, up_s, if_pos (by omega)]
        · rw [up_k y2, hs]
          by_cases y3 : x < i
          · rw [if_pos ⟨rfl, y3⟩, if_pos (by omega)]
          · rw [if_neg (by omega), if_neg (by omega)]
      · rw [up_a y, hs, if_neg (by omega), if_neg (by omega)]
  exact key n1 0 σ (by omega) (fun c x => by rw [if_neg (by omega)])
end
