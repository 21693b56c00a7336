/-! Orders: the class's side. -/
noncomputable section
theorem fnd_no {g : Nat → Int} {x : Int} : ∀ (d b : Nat), (∀ k, b ≤ k → k < b + d → ¬ g k = x) → fnd g x b d = -1 := by
  intro d
  induction d with
  | zero => intro b _; rfl
  | succ d ih =>
    intro b h
    show (if g b = x then (b : Int) else fnd g x (b + 1) d) = -1
    rw [if_neg (h b (by omega) (by omega))]
    exact ih (b + 1) (fun k h1 h2 => h k (by omega) (by omega))
theorem at_1 {σ : Sg} {a n i : Nat} (hn : σ a 1 = (n : Nat)) (hi : i < n) : atS σ a (i : Int) = σ (a + 1) i := at_on hn (fun _ _ => rfl) hi
/-- the tried patches -/
def TR (σ : Sg) (ps : List Pt) : Prop := ∀ (x : Nat) (q : Pt), ps[x]? = some q → HC σ (541 + 13 * x) q
theorem xT {σ : Sg} {h k : Nat} {st ps : List Pt} {p q : Pt} (h4 : h ≤ 4) (H : okL h st ps) (hp : ps[k]? = some p) (hq : ps[k + 1]? = some q) (w : WF σ) (R : TR σ ps) : (tcP p q → Dd 10 [vA 350, vA 540, vI k, vI 96] σ (rI 0 σ)) ∧ (¬ tcP p q → ∃ s, Dd 10 [vA 350, vA 540, vI k, vI 96] σ (rI 1 s) ∧ WF s ∧ TR s (exA ps k p q) ∧ ∀ c x, ¬ (352 ≤ c ∧ c ≤ 374) → ¬ (541 ≤ c ∧ c ≤ 605) → s c x = σ c x) := by
  have hx := (List.getElem?_eq_some_iff.mp hq).1
  have hl := H.1
  have Z := okL_z H h4 hp hq
  have hz := Z
  obtain ⟨z1, z2, z3, z4⟩ := hz
  have C := H.2.2.1 _ _ _ hp hq
  have c1 := C.1
  have E := EL_T (g := k) (by omega)
  have hP := R k p hp
  have hQ := R (k + 1) q hq
  refine ⟨fun T => ex_n E w hP hQ T ⟨by omega, by omega, by omega, by omega⟩, fun T => ?_⟩
  obtain ⟨t1, -⟩ := cpT (m := k) (by omega)
  obtain ⟨u1, -⟩ := cpT (m := k + 1) (by omega)
  obtain ⟨s, r1, r2, r3, r4, r5⟩ := ex_c E (by omega) (by omega) (by omega) w hP hQ (H.2.1 _ _ hp) (H.2.1 _ _ hq) C T Z t1.2.1 u1.2.1 t1.2.2 u1.2.2
  refine ⟨s, r1, r2, fun x a e => ?_, fun c x y1 y2 => r5 c x (by omega) (by omega) (by omega) (by omega)⟩
  rw [exA_get (by omega)] at e
  by_cases y : x = k
  · rw [if_pos y] at e
    cases e
    rw [y]
    exact r3
  · rw [if_neg y] at e
    by_cases y2 : x = k + 1
    · rw [if_pos y2] at e
      cases e
      rw [y2]
      exact r4
    · rw [if_neg y2] at e
      exact HC_fr (fun c i hc => r5 c i (by have := (List.getElem?_eq_some_iff.mp e).1; omega) (by have := (List.getElem?_eq_some_iff.mp e).1; omega) (by omega) (by omega)) (R x a e)
/-- the rows of what was found -/
def DR (σ : Sg) (D : List Oe) : Prop := σ 606 1 = (D.length : Nat) ∧ (∀ (n : Nat) (e : Oe), D[n]? = some e → σ 607 n = ccL e.1) ∧ σ 608 1 = (D.length : Nat) ∧ σ 610 1 = (D.length : Nat) ∧ ∀ (n : Nat) (e : Oe), 0 < n → D[n]? = some e → σ 609 n = (e.2.2.1 : Nat) ∧ σ 611 n = (e.2.2.2 : Nat)
theorem DR_fr {σ s : Sg} {D : List Oe} (h : ∀ c k, 606 ≤ c ∧ c ≤ 611 → s c k = σ c k) (H : DR σ D) : DR s D := by
  obtain ⟨h1, h2, h3, h4, h5⟩ := H
  refine ⟨by rw [h _ _ (by omega)]; exact h1, fun n e he => by rw [h _ _ (by omega)]; exact h2 n e he, by rw [h _ _ (by omega)]; exact h3, by rw [h _ _ (by omega)]; exact h4, fun n e hn he => by rw [h _ _ (by omega), h _ _ (by omega)]; exact h5 n e hn he⟩
theorem rwO : isRow 606 = true ∧ isRow 608 = true ∧ isRow 610 = true ∧ isRow 612 = true ∧ cap 606 = 24 ∧ cap 608 = 24 ∧ cap 610 = 24 ∧ cap 612 = 24 := by decide +kernel
theorem WF_ad {σ : Sg} {a : Nat} {v : Int} (ha : isRow a = true) (w : WF σ) : WF (adS σ a v) := by
  have z := w a ha
  refine WF_row (r := a) (fun b hb hn => ?_) ?_ w
  · exact ad_off hn (fun e => by subst e; exact row_nx ha hb rfl)
  · by_cases y : σ a 1 < (cap a : Int)
    · rw [ad_sz y]; omega
    · unfold adS
      rw [if_neg y]
      exact z
theorem WF_0 {σ : Sg} {a : Nat} (ha : isRow a = true) (w : WF σ) : WF (upS σ a 1 0) :=
  WF_row (r := a) (fun b hb hn => up_a hn) (by rw [up_s]; omega) w
/-- which exchanges led there -/
theorem l170b {h : Nat} {st : List Pt} {D : List Oe} {d1 d2} (I : DI h st D) : ∀ (ms : List Nat) (n i : Nat) (σ : Sg) (l : List Int), pth D n ms → n < D.length → i + ms.length ≤ 23 → l.length + ms.length ≤ 23 → WF σ → Rw σ 612 l → DR σ D → ∃ s, (∀ {o : Rs}, (∀ d4, C170_102 d1 d2 (some (vI 0)) d4 s o) → C170_61 d1 d2 n i σ o) ∧ WF s ∧ Rw s 612 (l ++ ms.map (fun m : Nat => (m : Int))) ∧ ∀ c k, ¬ (612 ≤ c ∧ c ≤ 613) → s c k = σ c k := by
  intro ms
  induction ms with
  | nil =>
    intro n i σ l hp hn hi hl w R DD
    have hp : n = 0 := hp
    subst hp
    refine ⟨σ, fun {o} h => b170_61 ?_, w, by rw [List.map_nil, List.append_nil]; exact R, fun _ _ _ => rfl⟩
    have hi : i + 0 ≤ 23 := hi
    rw [if_pos (by omega), if_neg (by omega)]
    exact h _
  | cons m r ih =>
    intro n i σ l hp hn hi hl w R DD
    obtain ⟨h0, e, he, hm, hr⟩ := hp
    have hi : i + (r.length + 1) ≤ 23 := hi
    have hl : l.length + (r.length + 1) ≤ 23 := hl
    obtain ⟨q1, q2, q3, q4, q5, q6, q7, q8⟩ := rwO
    obtain ⟨g1, g2, g3, g4, g5⟩ := DD
    obtain ⟨k1, k2⟩ := g5 n e h0 he
    have e1 := d147 (σ := σ) (a := 610) (i := (n : Int)) (WF_w w q3)
    rw [at_1 g4 hn, k2, hm] at e1
    have e2 := d149 (σ := σ) (a := 612) (v := (m : Int)) (WF_w w q4)
    have w2 : WF (adS σ 612 (m : Int)) := WF_ad q4 w
    have fr : ∀ c k, ¬ (612 ≤ c ∧ c ≤ 613) → adS σ 612 (m : Int) c k = σ c k := fun c k h => ad_off (by omega) (by omega)
    have e3 := d147 (σ := adS σ 612 (m : Int)) (a := 608) (i := (n : Int)) (WF_w w2 q2)
    rw [at_1 (n := D.length) (by rw [fr _ _ (by omega)]; exact g3) hn, fr _ _ (by omega), k1] at e3
    have gp := (I.2.2.2 n e h0 he).1
    obtain ⟨s, a1, a2, a3, a4⟩ := ih e.2.2.1 (i + 1) (adS σ 612 (m : Int)) (l ++ [(m : Int)]) hr (by omega) (by omega) (by rw [List.length_append]; show l.length + 1 + r.length ≤ 23; omega) w2 (Rw_ad R (by omega)) (DR_fr (fun c k h => fr c k (by omega)) ⟨g1, g2, g3, g4, g5⟩)
    refine ⟨s, fun {o} h => b170_61 ?_, a2, by rw [List.append_assoc] at a3; exact a3, fun c k h => by rw [a4 c k h]; exact fr c k h⟩
    rw [if_pos (by omega), if_pos (by omega)]
    refine ⟨_, _, e1, _, e2, _, _, e3, by omega, ?_⟩
    rw [show (i : Int) + 1 = ((i + 1 : Nat) : Int) by omega]
    exact a1 h
/-- the exchanges done -/
theorem l170c {h : Nat} {st : List Pt} {D : List Oe} {d1 d2 d3} {full : List Nat} (h4 : h ≤ 4) (I : DI h st D) (hf : full.length ≤ 24) : ∀ (ms pre : List Nat) (n : Nat) (σ : Sg), full = pre ++ ms → pth D n ms → n < D.length → WF σ → TR σ st → Rw σ 612 (full.map (fun m : Nat => (m : Int))) → ∃ s, (∀ {o : Rs}, C170_113 d1 d2 d3 ((pre.length : Int) - 1) s o → C170_113 d1 d2 d3 ((full.length : Int) - 1) σ o) ∧ WF s ∧ (∀ e : Oe, D[n]? = some e → TR s e.2.1) ∧ ∀ c x, ¬ (352 ≤ c ∧ c ≤ 374) → ¬ (541 ≤ c ∧ c ≤ 605) → s c x = σ c x := by
  intro ms
  induction ms with
  | nil =>
    intro pre n σ hfull hp hn w R RW
    have hp : n = 0 := hp
    subst hp
    rw [List.append_nil] at hfull
    subst hfull
    refine ⟨σ, fun {o} h => h, w, fun e he => ?_, fun _ _ _ _ => rfl⟩
    obtain ⟨e0, z1, z2, z3⟩ := I.2.2.1
    rw [z1] at he
    cases he
    rw [z3]
    exact R
  | cons m r ih =>
    intro pre n σ hfull hp hn w R RW
    obtain ⟨h0, e, he, hm, hr⟩ := hp
    obtain ⟨gp, g2, e', p, q, g3, g4, g5, g6, g7, g8⟩ := I.2.2.2 n e h0 he
    have hfl : full = (pre ++ [m]) ++ r := by rw [hfull, List.append_assoc]; rfl
    have hlen : full.length = pre.length + (r.length + 1) := by rw [hfull, List.length_append, List.length_cons]
    obtain ⟨s, a1, a2, a3, a4⟩ := ih (pre ++ [m]) e.2.2.1 σ hfl hr (by omega) w R RW
    have RW2 : Rw s 612 (full.map (fun m : Nat => (m : Int))) := Rw_fr (a4 _ _ (by decide) (by decide)) (fun i => a4 _ _ (by decide) (by decide)) RW
    have hpm : full[pre.length]? = some m := by rw [hfull, List.getElem?_append_right (Nat.le_refl _), Nat.sub_self]; rfl
    have hv : (full.map (fun m : Nat => (m : Int)))[pre.length]? = some (m : Int) := by rw [List.getElem?_map, hpm]; rfl
    have q4 := rwO.2.2.2.1
    have e1 := d147 (σ := s) (a := 612) (i := (pre.length : Int)) (WF_w a2 q4)
    have hn2 := RW2.1
    rw [List.length_map] at hn2
    rw [at_1 hn2 (by omega), RW2.2 _ _ hv] at e1
    subst hm
    obtain ⟨-, x2⟩ := xT h4 (I.1 _ e' g3).2 g4 g5 a2 (a3 e' g3)
    obtain ⟨s2, r1, r2, r3, r4⟩ := x2 g6
    refine ⟨s2, fun {o} h => a1 (b170_113 ?_), r2, fun e2 he2 => ?_, fun c x y1 y2 => by rw [r4 c x y1 y2]; exact a4 c x y1 y2⟩
    · rw [show (((pre ++ [e.2.2.2]).length : Nat) : Int) - 1 = (pre.length : Int) by rw [List.length_append, List.length_singleton]; omega, if_pos (by omega)]
      refine ⟨_, _, e1, _, _, r1, by omega, ?_⟩
      rw [show (pre.length : Int) + (-1) = (pre.length : Int) - 1 by omega]
      exact h
    · rw [he] at he2
      cases he2
      rw [g7]
      exact r3
/-- the patches of the stack, tried -/
theorem l170a {h : Nat} {st : List Pt} {x2 : Int} {d4} (h4 : h ≤ 4) (hl : st.length = h) (hz : ∀ (x : Nat) (q : Pt), st[x]? = some q → q.1 ≤ 96 ∧ q.2.1 ≤ 96) : ∀ (d x : Nat) (σ : Sg), x + d = h → σ 402 3 = (h : Nat) → WF σ → (∀ (y : Nat) (q : Pt), st[y]? = some q → HC σ (406 + 13 * y) q) → (∀ (y : Nat) (q : Pt), y < x → st[y]? = some q → HC σ (541 + 13 * y) q) → ∃ s, (∀ {o : Rs}, (∀ d3, C170_49 (some (vA 402)) x2 d3 d4 s o) → C170_2 x2 x d4 σ o) ∧ WF s ∧ TR s st ∧ ∀ c k, ¬ (541 ≤ c ∧ c ≤ 605) → s c k = σ c k := by
  intro d
  induction d with
  | zero =>
    intro x σ hd hh w hP hT
    refine ⟨σ, fun {o} h => b170_2 ?_, w, fun y q e => hT y q ?_ e, fun _ _ _ => rfl⟩
    · rw [if_neg (by omega)]
      exact h _
    · have := (List.getElem?_eq_some_iff.mp e).1
      omega
  | succ d ih =>
    intro x σ hd hh w hP hT
    obtain ⟨t1, t2⟩ := cpT (m := x) (by omega)
    obtain ⟨-, -, -, -, -, -, hPx, qPx⟩ := cpL (p := x) (by omega)
    have D1 := d96 (σ := σ) (P := 541 + 13 * x) (Q := 406 + 13 * x) t1.1 hPx (by omega) (WF_pw w)
    obtain ⟨q0, hq0⟩ : ∃ q0, st[x]? = some q0 := ⟨_, List.getElem?_eq_getElem (by omega)⟩
    have k0 := HC_pb (P := 541 + 13 * x) (by omega) (hP x q0 hq0) (hz x q0 hq0) t1
    have fr : ∀ c k, ¬ (541 ≤ c ∧ c ≤ 605) → pbS σ (541 + 13 * x) (406 + 13 * x) c k = σ c k := fun c k hc => pb_off (by omega)
    obtain ⟨s, a1, a2, a3, a4⟩ := ih (x + 1) (pbS σ (541 + 13 * x) (406 + 13 * x)) (by omega) (by rw [fr _ _ (by decide)]; exact hh) (WF_pb t1.1 hPx w) (fun y q e => HC_fr (fun c k hc => fr c k (by have := (List.getElem?_eq_some_iff.mp e).1; omega)) (hP y q e)) (fun y q hy e => by
      by_cases ey : y = x
      · subst ey
        rw [hq0] at e
        cases e
        exact k0
      · exact HC_fr (fun c k hc => pb_off (by omega)) (hT y q (by omega) e))
    refine ⟨s, fun {o} h => b170_2 ?_, a2, a3, fun c k hc => by rw [a4 c k hc]; exact fr c k hc⟩
    rw [if_pos (by omega), if_pos (by omega), if_pos (by omega)]
    refine ⟨by omega, 541 + 13 * x, by rw [tn]; exact t2, t1.1, by omega, 406 + 13 * x, by rw [tn]; exact qPx, hPx, _, D1, by omega, ?_⟩
    rw [show (x : Int) + 1 = ((x + 1 : Nat) : Int) by omega]
    exact a1 h
/-- what stays while orders are looked for: the stack -/
def SK (σ : Sg) (h : Nat) (st : List Pt) : Prop := σ 402 3 = (h : Nat) ∧ ∀ (y : Nat) (q : Pt), st[y]? = some q → HC σ (406 + 13 * y) q
theorem SK_fr {σ s : Sg} {h : Nat} {st : List Pt} (h5 : st.length ≤ 5) (f : ∀ c k, 402 ≤ c ∧ c ≤ 471 → s c k = σ c k) (H : SK σ h st) : SK s h st :=
  ⟨by rw [f _ _ (by omega)]; exact H.1, fun y q e => HC_fr (fun c k hc => f c k (by have := (List.getElem?_eq_some_iff.mp e).1; omega)) (H.2 y q e)⟩
/-- replay -/
theorem d170 {h n : Nat} {st : List Pt} {D : List Oe} {σ : Sg} (h4 : h ≤ 4) (hst : okL h st st) (I : DI h st D) (hn : n < D.length) (w : WF σ) (K : SK σ h st) (DD : DR σ D) : ∃ s, Dd 170 [vA 473, vA 402, vI n] σ (rV s) ∧ WF s ∧ (∀ e : Oe, D[n]? = some e → TR s e.2.1) ∧ ∀ c x, ¬ (352 ≤ c ∧ c ≤ 374) → ¬ (541 ≤ c ∧ c ≤ 605) → ¬ (612 ≤ c ∧ c ≤ 613) → s c x = σ c x := by
  have hl := DI_len I h4
  obtain ⟨ms, p1, p2⟩ := pth_ex I n n (Nat.le_refl _) hn
  obtain ⟨s1, a1, a2, a3, a4⟩ := l170a (x2 := (n : Int)) (d4 := none) h4 hst.1 (fun x q e => by
    have z := okL_sz hst x q e
    have hx := (List.getElem?_eq_some_iff.mp e).1
    have := hst.1
    omega) h 0 σ (by omega) K.1 w K.2 (fun y q hy => absurd hy (by omega))
  have q4 := rwO.2.2.2.1
  have w2 : WF (upS s1 612 1 0) := WF_0 q4 a2
  have f2 : ∀ c k, ¬ c = 612 → upS s1 612 1 0 c k = s1 c k := fun c k hc => up_a hc
  have DD2 : DR (upS s1 612 1 0) D := DR_fr (fun c k hc => by rw [f2 c k (by omega)]; exact a4 c k (by omega)) DD
  obtain ⟨s3, b1, b2, b3, b4⟩ := l170b (d1 := some (vA 402)) (d2 := some (vI (n : Int))) I ms n 0 (upS s1 612 1 0) [] p1 hn (by omega) (by show 0 + ms.length ≤ 23; omega) w2 Rw_nil DD2
  rw [List.nil_append] at b3
  have T3 : TR s3 st := fun x q e => HC_fr (fun c k hc => by
    have hx := (List.getElem?_eq_some_iff.mp e).1
    have := hst.1
    rw [b4 c k (by omega), f2 c k (by omega)]) (a3 x q e)
  have e146 := d146 (σ := s3) q4
  have hsz := b3.1
  rw [List.length_map] at hsz
  rw [hsz] at e146
  obtain ⟨s4, c1, c2, c3, c4⟩ := l170c (d1 := some (vA 402)) (d2 := some (vI (n : Int))) (d3 := some (vI 0)) (full := ms) h4 I (by omega) ms [] n s3 rfl p1 hn b2 T3 b3
  have z : C170_113 (some (vA 402)) (some (vI (n : Int))) (some (vI 0)) ((([] : List Nat).length : Int) - 1) s4 (rV s4) := b170_113 (by rw [if_neg (by show ¬ (0 : Int) ≤ ((0 : Nat) : Int) - 1; omega)])
  refine ⟨s4, b170 (a1 (fun d3 => b170_49 ⟨_, d152 q4, b1 (fun d4 => b170_102 ⟨_, _, e146, by omega, c1 z⟩)⟩)), c2, c3, fun c x y1 y2 y3 => ?_⟩
  · rw [c4 c x y1 y2, b4 c x y3, f2 c x (by omega)]
    exact a4 c x y2
/-- the text of the stack stays -/
theorem d169 {h : Nat} {st ps : List Pt} {σ : Sg} (h4 : h ≤ 4) (h0 : 0 < h) (hst : okL h st st) (hps : okL h st ps) (w : WF σ) (K : SK σ h st) (R : TR σ ps) : Dd 169 [vA 473, vA 402] σ (rI 1 σ) := by
  obtain ⟨k, rfl⟩ : ∃ k, h = k + 1 := ⟨h - 1, by omega⟩
  have l1 := hst.1
  have l2 := hps.1
  obtain ⟨a, ha⟩ : ∃ a, ps[k]? = some a := ⟨_, List.getElem?_eq_getElem (by omega)⟩
  obtain ⟨b, hb⟩ : ∃ b, st[k]? = some b := ⟨_, List.getElem?_eq_getElem (by omega)⟩
  have z : a.2.1 = b.2.1 ∧ a.2.2.2.1 = b.2.2.2.1 := hps.2.2.2.2 a b ha hb
  have hA := R k a ha
  have hB := K.2 k b hb
  have hh := K.1
  obtain ⟨t1, t2⟩ := cpT (m := k) (by omega)
  obtain ⟨-, -, -, -, -, -, hPk, qPk⟩ := cpL (p := k) (by omega)
  have r1 : Dd 89 [vA 540, vI (k : Nat), vI ((k + 1 : Nat) : Int)] σ (rA (541 + 13 * k) σ) := by
    refine b89 ?_
    rw [if_pos (by omega), if_pos (by omega)]
    refine ⟨5, by decide +kernel, by omega, ?_⟩
    rw [if_pos (by omega)]
    exact ⟨by omega, 541 + 13 * k, by rw [tn]; exact t2, t1.1, rfl⟩
  have r2 : Dd 127 [vA 402] σ (rA (406 + 13 * k + 3) σ) := by
    refine b127 ?_
    rw [hh, if_pos (by omega), if_pos (by omega)]
    exact ⟨by omega, by omega, 406 + 13 * k, by rw [show (((k + 1 : Nat) : Int) - 1).toNat = k by omega]; exact qPk, hPk, rfl⟩
  have sm : smP σ (541 + 13 * k + 3) (406 + 13 * k + 3) := by
    refine ⟨by rw [hA.1.2.1, hB.1.2.1, z.1], fun x hx => ?_⟩
    rw [hA.1.2.1] at hx
    show σ (541 + 13 * k + 4) x = σ (406 + 13 * k + 4) x
    rw [hA.2.2.1 x (by omega), hB.2.2.1 x (by omega), z.2]
  refine b169 ⟨by omega, some (541 + 13 * k), σ, ?_, fun e => (by cases e), fun a5 e => ?_⟩
  · rw [hh, show ((k + 1 : Nat) : Int) - 1 = (k : Int) by omega]
    exact r1
  · cases e
    refine ⟨t1.1, _, _, r2, pat_3 hPk, 1, σ, d156_t (WF_w w (pat_3 t1.1)) (WF_w w (pat_3 hPk)) sm, ?_⟩
    rw [if_neg (show ¬ (1 : Int) = 0 by decide)]
/-- noteOrder -/
theorem d168 {D : List Oe} {σ : Sg} {e : Oe} (w : WF σ) (DD : DR σ D) (hD : D.length < 24) : ∃ s, Dd 168 [vA 473, vI (ccL e.1), vI (e.2.2.1 : Nat), vI (e.2.2.2 : Nat)] σ (rV s) ∧ WF s ∧ DR s (D ++ [e]) ∧ ∀ c k, ¬ (606 ≤ c ∧ c ≤ 611) → s c k = σ c k := by
  obtain ⟨q1, q2, q3, q4, q5, q6, q7, q8⟩ := rwO
  obtain ⟨g1, g2, g3, g4, g5⟩ := DD
  have w1 : WF (adS σ 606 (ccL e.1)) := WF_ad q1 w
  have w2 : WF (adS (adS σ 606 (ccL e.1)) 608 (e.2.2.1 : Nat)) := WF_ad q2 w1
  have w3 : WF (adS (adS (adS σ 606 (ccL e.1)) 608 (e.2.2.1 : Nat)) 610 (e.2.2.2 : Nat)) := WF_ad q3 w2
  have o1 : ∀ c k, ¬ c = 606 → ¬ c = 607 → adS σ 606 (ccL e.1) c k = σ c k := fun c k h h' => ad_off h h'
  have o2 : ∀ c k, ¬ c = 608 → ¬ c = 609 → adS (adS σ 606 (ccL e.1)) 608 (e.2.2.1 : Nat) c k = adS σ 606 (ccL e.1) c k := fun c k h h' => ad_off h h'
  have o3 : ∀ c k, ¬ c = 610 → ¬ c = 611 → adS (adS (adS σ 606 (ccL e.1)) 608 (e.2.2.1 : Nat)) 610 (e.2.2.2 : Nat) c k = adS (adS σ 606 (ccL e.1)) 608 (e.2.2.1 : Nat) c k := fun c k h h' => ad_off h h'
  have n6 : σ 606 1 < (cap 606 : Int) := by omega
  have n8 : adS σ 606 (ccL e.1) 608 1 < (cap 608 : Int) := by rw [o1 _ _ (by decide) (by decide)]; omega
  have n0 : adS (adS σ 606 (ccL e.1)) 608 (e.2.2.1 : Nat) 610 1 < (cap 610 : Int) := by rw [o2 _ _ (by decide) (by decide), o1 _ _ (by decide) (by decide)]; omega
  have hl : (D ++ [e]).length = D.length + 1 := by rw [List.length_append]; rfl
  have cs : ∀ {n : Nat} {a : Oe}, (D ++ [e])[n]? = some a → D[n]? = some a ∧ n < D.length ∨ (n = D.length ∧ a = e) := fun {n a} hn => by
    by_cases y : n < D.length
    · rw [List.getElem?_append_left y] at hn
      exact Or.inl ⟨hn, y⟩
    · rw [List.getElem?_append_right (by omega)] at hn
      have hx := (List.getElem?_eq_some_iff.mp hn).1
      rw [List.length_singleton] at hx
      rw [show n - D.length = 0 by omega] at hn
      cases hn
      exact Or.inr ⟨by omega, rfl⟩
  refine ⟨_, b168 ⟨_, d149 (WF_w w q1), _, d149 (WF_w w1 q2), _, d149 (WF_w w2 q3), rfl⟩, w3, ⟨?_, fun n a hn => ?_, ?_, ?_, fun n a hn0 hn => ⟨?_, ?_⟩⟩, fun c k h => by rw [o3 c k (by omega) (by omega), o2 c k (by omega) (by omega)]; exact o1 c k (by omega) (by omega)⟩
  · rw [o3 _ _ (by decide) (by decide), o2 _ _ (by decide) (by decide), ad_sz n6, hl]; omega
  · rw [o3 _ _ (by decide) (by decide), o2 _ _ (by decide) (by decide)]
    have z := ad_val (σ := σ) (a := 606) (k := n) (v := ccL e.1) n6 (by omega)
    have z : adS σ 606 (ccL e.1) 607 n = if (n : Int) = σ 606 1 then ccL e.1 else σ 607 n := z
    rw [z]
    rcases cs hn with ⟨y1, y2⟩ | ⟨y1, y2⟩
    · rw [if_neg (by omega)]; exact g2 n a y1
    · rw [if_pos (by omega), y2]
  · rw [o3 _ _ (by decide) (by decide), ad_sz n8, o1 _ _ (by decide) (by decide), hl]; omega
  · rw [ad_sz n0, o2 _ _ (by decide) (by decide), o1 _ _ (by decide) (by decide), hl]; omega
  · rw [o3 _ _ (by decide) (by decide)]
    have z := ad_val (σ := adS σ 606 (ccL e.1)) (a := 608) (k := n) (v := (e.2.2.1 : Nat)) n8 (by rw [o1 _ _ (by decide) (by decide)]; omega)
    have z : adS (adS σ 606 (ccL e.1)) 608 (e.2.2.1 : Nat) 609 n = if (n : Int) = adS σ 606 (ccL e.1) 608 1 then ((e.2.2.1 : Nat) : Int) else adS σ 606 (ccL e.1) 609 n := z
    rw [z, o1 _ _ (by decide) (by decide), o1 _ _ (by decide) (by decide)]
    rcases cs hn with ⟨y1, y2⟩ | ⟨y1, y2⟩
    · rw [if_neg (by omega)]; exact (g5 n a hn0 y1).1
    · rw [if_pos (by omega), y2]
  · have z := ad_val (σ := adS (adS σ 606 (ccL e.1)) 608 (e.2.2.1 : Nat)) (a := 610) (k := n) (v := (e.2.2.2 : Nat)) n0 (by rw [o2 _ _ (by decide) (by decide), o1 _ _ (by decide) (by decide)]; omega)
    have z : adS (adS (adS σ 606 (ccL e.1)) 608 (e.2.2.1 : Nat)) 610 (e.2.2.2 : Nat) 611 n = if (n : Int) = adS (adS σ 606 (ccL e.1)) 608 (e.2.2.1 : Nat) 610 1 then ((e.2.2.2 : Nat) : Int) else adS (adS σ 606 (ccL e.1)) 608 (e.2.2.1 : Nat) 611 n := z
    rw [z, o2 _ _ (by decide) (by decide), o1 _ _ (by decide) (by decide), o2 _ _ (by decide) (by decide), o1 _ _ (by decide) (by decide)]
    rcases cs hn with ⟨y1, y2⟩ | ⟨y1, y2⟩
    · rw [if_neg (by omega)]; exact (g5 n a hn0 y1).2
    · rw [if_pos (by omega), y2]
/-- all exchanges of an order -/
theorem l165b {h i : Nat} {st : List Pt} (h4 : h ≤ 4) (hst : okL h st st) (hi24 : i < 24) : ∀ (d k : Nat) (D : List Oe) (σ : Sg), k + d = h - 1 → DI h st D → i < D.length → WF σ → SK σ h st → DR σ D → ∃ s, (∀ (d4 : Option AV) {o : Rs}, (∀ d3 d4, C165_36 ((i + 1 : Nat) : Int) d3 d4 s o) → C165_55 i k d4 σ o) ∧ WF s ∧ SK s h st ∧ DR s (inF i d k D) ∧ ∀ c x, ¬ (352 ≤ c ∧ c ≤ 374) → ¬ (541 ≤ c ∧ c ≤ 613) → s c x = σ c x := by
  intro d
  induction d with
  | zero =>
    intro k D σ hd I hi w K DD
    refine ⟨σ, fun d4 {o} hh => b165_55 ⟨by omega, ?_⟩, w, K, DD, fun _ _ _ _ => rfl⟩
    rw [K.1, if_neg (by omega), show (i : Int) + 1 = ((i + 1 : Nat) : Int) by omega]
    exact ⟨by omega, hh _ _⟩
  | succ d ih =>
    intro k D σ hd I hi w K DD
    have hk : k + 1 < h := by omega
    obtain ⟨e, p, q, he, he1, he2, hp, hq⟩ := DI_pq I hi hk
    have hl := DI_len I h4
    obtain ⟨q1, q2, q3, q4, q5, q6, q7, q8⟩ := rwO
    have hDD := DD
    obtain ⟨g1, g2, g3, g4, g5⟩ := hDD
    obtain ⟨pm1, pm2⟩ := pm_sw h (by omega) e.1 he1 k (by omega) hk
    have e1 := d147 (σ := σ) (a := 606) (i := (i : Int)) (WF_w w q1)
    rw [at_1 g1 hi, g2 i e he] at e1
    have e2 : Dd 167 [vI (ccL e.1), vI k] σ (rI (ccL (swL e.1 k)) σ) := by
      refine b167 ⟨by omega, by omega, by omega, by omega, by omega, by omega, ?_⟩
      rw [← pm2]
      rfl
    have e3 := d160 (σ := σ) (R := 606) (n := D.length) (b := 0) (g := σ 607) (x := ccL (swL e.1 k)) (WF_w w q1) g1 (fun _ _ => rfl) (by omega)
    have go : ∀ (d4 : Option AV) {o : Rs}, (if fnd (σ 607) (ccL (swL e.1 k)) 0 (D.length - 0) = -1 then (∃ s11, Dd 170 [vA 473, vA 402, vI i] σ (rV s11) ∧ (∃ v14 s13, Dd 10 [vA 350, vA 540, vI k, vI 96] s11 (rI v14 s13) ∧ (if v14 = 0 then C165_140 i k (some (vI (ccL (swL e.1 k)))) s13 o else (∃ v17 s16, Dd 169 [vA 473, vA 402] s13 (rI v17 s16) ∧ (if v17 = 0 then o = rI (-1) s16 else (∃ s19, Dd 168 [vA 473, vI (ccL (swL e.1 k)), vI i, vI k] s16 (rV s19) ∧ C165_140 i k (some (vI (ccL (swL e.1 k)))) s19 o)))))) else C165_140 i k (some (vI (ccL (swL e.1 k)))) σ o) → C165_55 i k d4 σ o := by
      intro d4 o hh
      refine b165_55 ⟨by omega, ?_⟩
      rw [K.1, if_pos (by omega)]
      exact ⟨_, _, e1, _, _, e2, _, _, e3, hh⟩
    have nx : ∀ {o : Rs} (d : Option AV) (s : Sg), C165_55 i ((k + 1 : Nat) : Int) d s o → C165_140 i k d s o := fun {o} d s hh => b165_140 ⟨by omega, by rw [show (k : Int) + 1 = ((k + 1 : Nat) : Int) by omega]; exact hh⟩
    show ∃ s, _ ∧ WF s ∧ SK s h st ∧ DR s (inF i d (k + 1) (stF D i k)) ∧ _
    by_cases m : swL e.1 k ∈ D.map (fun e : Oe => e.1)
    · rw [stF_1 he hp hq m]
      obtain ⟨s, a1, a2, a3, a4, a5⟩ := ih (k + 1) D σ (by omega) I hi w K DD
      refine ⟨s, fun d4 {o} hh => go d4 ?_, a2, a3, a4, a5⟩
      have hf : ¬ fnd (σ 607) (ccL (swL e.1 k)) 0 (D.length - 0) = -1 := by
        obtain ⟨a, ha, ha2⟩ := List.mem_map.mp m
        obtain ⟨n, hn⟩ := List.mem_iff_getElem?.mp ha
        obtain ⟨x, z1, -⟩ := fnd_in (g := σ 607) (x := ccL (swL e.1 k)) (D.length - 0) 0 ⟨n, by omega, by have := (List.getElem?_eq_some_iff.mp hn).1; omega, by rw [g2 n a hn]; exact congrArg ccL ha2⟩
        omega
      rw [if_neg hf]
      exact nx _ _ (a1 _ hh)
    have hf : fnd (σ 607) (ccL (swL e.1 k)) 0 (D.length - 0) = -1 := by
      refine fnd_no _ _ (fun n _ hn hc => m ?_)
      have ha : D[n]? = some D[n] := List.getElem?_eq_getElem (by omega)
      rw [g2 n _ ha] at hc
      have z := ((pm_in h (by omega) _ (I.1 n _ ha).1 _ pm1).1 hc)
      rw [← z]
      exact List.mem_map.mpr ⟨_, List.mem_of_getElem? ha, rfl⟩
    obtain ⟨s1, r1, r2, r3, r4⟩ := d170 h4 hst I hi w K DD
    have K1 : SK s1 h st := SK_fr (by have := hst.1; omega) (fun c x hc => r4 c x (by omega) (by omega) (by omega)) K
    have DD1 : DR s1 D := DR_fr (fun c x hc => r4 c x (by omega) (by omega) (by omega)) DD
    obtain ⟨x1, x2⟩ := xT h4 he2 hp hq r2 (r3 e he)
    by_cases T : tcP p q
    · rw [stF_2 he hp hq T]
      obtain ⟨s, a1, a2, a3, a4, a5⟩ := ih (k + 1) D s1 (by omega) I hi r2 K1 DD1
      refine ⟨s, fun d4 {o} hh => go d4 ?_, a2, a3, a4, fun c x y1 y2 => by rw [a5 c x y1 y2]; exact r4 c x y1 (by omega) (by omega)⟩
      rw [if_pos hf]
      refine ⟨_, r1, 0, _, x1 T, ?_⟩
      rw [if_pos rfl]
      exact nx _ _ (a1 _ hh)
    · have I2 := DI_s I h4 hi hk
      have hl2 := DI_len I2 h4
      rw [stF_3 he hp hq m T] at I2 hl2 ⊢
      rw [List.length_append, List.length_singleton] at hl2
      obtain ⟨s2, t1, t2, t3, t4⟩ := x2 T
      have K2 : SK s2 h st := SK_fr (by have := hst.1; omega) (fun c x hc => t4 c x (by omega) (by omega)) K1
      have DD2 : DR s2 D := DR_fr (fun c x hc => t4 c x (by omega) (by omega)) DD1
      have e5 := d169 h4 (by omega) hst (exA_ok he2 h4 hp hq T) t2 K2 t3
      obtain ⟨s3, u1, u2, u3, u4⟩ := d168 (e := (swL e.1 k, exA e.2.1 k p q, i, k)) t2 DD2 (by omega)
      have K3 : SK s3 h st := SK_fr (by have := hst.1; omega) (fun c x hc => u4 c x (by omega)) K2
      obtain ⟨s, a1, a2, a3, a4, a5⟩ := ih (k + 1) (D ++ [(swL e.1 k, exA e.2.1 k p q, i, k)]) s3 (by omega) I2 (by rw [List.length_append]; omega) u2 K3 u3
      refine ⟨s, fun d4 {o} hh => go d4 ?_, a2, a3, a4, fun c x y1 y2 => by rw [a5 c x y1 y2, u4 c x (by omega), t4 c x y1 (by omega)]; exact r4 c x y1 (by omega) (by omega)⟩
      rw [if_pos hf]
      refine ⟨_, r1, 1, _, t1, ?_⟩
      rw [if_neg (show ¬ (1 : Int) = 0 by decide)]
      refine ⟨1, _, e5, ?_⟩
      rw [if_neg (show ¬ (1 : Int) = 0 by decide)]
      exact ⟨s3, u1, nx _ _ (a1 _ hh)⟩
/-- all orders -/
theorem l165a {h : Nat} {st : List Pt} (h4 : h ≤ 4) (hst : okL h st st) : ∀ (f i : Nat) (D : List Oe) (σ : Sg), f + i = 24 → DI h st D → WF σ → SK σ h st → DR σ D → ∃ s, (∀ d3 d4, C165_36 i d3 d4 σ (rI ((ouF h f i D).length : Nat) s)) ∧ WF s ∧ ∀ c x, ¬ (352 ≤ c ∧ c ≤ 374) → ¬ (541 ≤ c ∧ c ≤ 613) → s c x = σ c x := by
  intro f
  induction f with
  | zero =>
    intro i D σ hf I w K DD
    have e := d146 (σ := σ) rwO.1
    rw [DD.1] at e
    refine ⟨σ, fun d3 d4 => b165_36 ?_, w, fun _ _ _ _ => rfl⟩
    rw [if_neg (by omega)]
    exact b165_152 ⟨_, _, e, rfl⟩
  | succ f ih =>
    intro i D σ hf I w K DD
    have e := d146 (σ := σ) rwO.1
    rw [DD.1] at e
    by_cases y : i < D.length
    · obtain ⟨s1, a1, a2, a3, a4, a5⟩ := l165b (i := i) h4 hst (by omega) (h - 1) 0 D σ (by omega) I y w K DD
      have I2 : DI h st (inF i (h - 1) 0 D) := by
        by_cases h0 : h = 0
        · rw [h0]; rw [h0] at I; exact I
        · exact (inF_ok (i := i) h4 (h - 1) 0 D (by omega) I y).1
      obtain ⟨s, c1, c2, c3⟩ := ih (i + 1) (inF i (h - 1) 0 D) s1 (by omega) I2 a2 a3 a4
      have e0 : ouF h (f + 1) i D = ouF h f (i + 1) (inF i (h - 1) 0 D) := by
        show (if i < D.length then _ else _) = _
        rw [if_pos y]
      rw [e0]
      refine ⟨s, fun d3 d4 => b165_36 ?_, c2, fun c x y1 y2 => by rw [c3 c x y1 y2]; exact a5 c x y1 y2⟩
      rw [if_pos (by omega)]
      refine ⟨_, _, e, ?_⟩
      rw [if_pos (by omega)]
      exact a1 d4 (fun d3 d4 => c1 d3 d4)
    · have e0 : ouF h (f + 1) i D = D := by
        show (if i < D.length then _ else _) = _
        rw [if_neg y]
      rw [e0]
      refine ⟨σ, fun d3 d4 => b165_36 ?_, w, fun _ _ _ _ => rfl⟩
      rw [if_pos (by omega)]
      refine ⟨_, _, e, ?_⟩
      rw [if_neg (by omega)]
      exact b165_152 ⟨_, _, e, rfl⟩
theorem l166 {h : Nat} (hh : h ≤ 5) {σ : Sg} : ∀ (d x : Nat), x + d = h → C166_4 h (fcN x) x σ (rI (fcN h) σ) := by
  intro d
  induction d with
  | zero =>
    intro x hd
    refine b166_4 ?_
    rw [if_neg (by omega), show x = h by omega]
  | succ d ih =>
    intro x hd
    refine b166_4 ?_
    rw [if_pos (by omega)]
    have z := ih (x + 1) (by omega)
    rw [show ((x + 1 : Nat) : Int) = (x : Int) + 1 by omega] at z
    exact ⟨by omega, by omega, z⟩
/-- countOrders -/
theorem d165 {h : Nat} {st : List Pt} {σ : Sg} (h4 : h ≤ 4) (hst : okL h st st) (w : WF σ) (K : SK σ h st) : ∃ s, Dd 165 [vA 473, vA 402] σ (rI ((ouF h 24 0 [(List.range h, st, 0, 0)]).length : Nat) s) ∧ WF s ∧ ∀ c x, ¬ (352 ≤ c ∧ c ≤ 374) → ¬ (541 ≤ c ∧ c ≤ 613) → s c x = σ c x := by
  obtain ⟨q1, q2, q3, q4, q5, q6, q7, q8⟩ := rwO
  obtain ⟨σ3, hσ3⟩ : ∃ s, s = upS (upS (upS σ 606 1 0) 608 1 0) 610 1 0 := ⟨_, rfl⟩
  have w3 : WF σ3 := by rw [hσ3]; exact WF_0 q3 (WF_0 q2 (WF_0 q1 w))
  have f3 : ∀ c x, ¬ c = 606 → ¬ c = 608 → ¬ c = 610 → σ3 c x = σ c x := fun c x y1 y2 y3 => by rw [hσ3, up_a y3, up_a y2, up_a y1]
  have z6 : σ3 606 1 = 0 := by rw [hσ3, up_a (by decide), up_a (by decide), up_s]
  have z8 : σ3 608 1 = 0 := by rw [hσ3, up_a (by decide), up_s]
  have z0 : σ3 610 1 = 0 := by rw [hσ3, up_s]
  have K3 : SK σ3 h st := SK_fr (by have := hst.1; omega) (fun c x hc => f3 c x (by omega) (by omega) (by omega)) K
  -- the first order
  have e166 : Dd 166 [vI (h : Nat)] σ3 (rI (ccL (List.range h)) σ3) := by
    rw [← (pm_f h (by omega)).2.1]
    exact b166 (l166 (by omega) h 0 (by omega))
  obtain ⟨s4, g1, g2, g3, g4⟩ : ∃ s, Dd 168 [vA 473, vI (ccL (List.range h)), vI (-1), vI (-1)] σ3 (rV s) ∧ WF s ∧ DR s [(List.range h, st, 0, 0)] ∧ ∀ c k, ¬ (606 ≤ c ∧ c ≤ 611) → s c k = σ3 c k := by
    have w1 : WF (adS σ3 606 (ccL (List.range h))) := WF_ad q1 w3
    have w2 : WF (adS (adS σ3 606 (ccL (List.range h))) 608 (-1)) := WF_ad q2 w1
    have w4 : WF (adS (adS (adS σ3 606 (ccL (List.range h))) 608 (-1)) 610 (-1)) := WF_ad q3 w2
    have o1 : ∀ c k, ¬ c = 606 → ¬ c = 607 → adS σ3 606 (ccL (List.range h)) c k = σ3 c k := fun c k h h' => ad_off h h'
    have o2 : ∀ c k, ¬ c = 608 → ¬ c = 609 → adS (adS σ3 606 (ccL (List.range h))) 608 (-1) c k = adS σ3 606 (ccL (List.range h)) c k := fun c k h h' => ad_off h h'
    have o3 : ∀ c k, ¬ c = 610 → ¬ c = 611 → adS (adS (adS σ3 606 (ccL (List.range h))) 608 (-1)) 610 (-1) c k = adS (adS σ3 606 (ccL (List.range h))) 608 (-1) c k := fun c k h h' => ad_off h h'
    have n6 : σ3 606 1 < (cap 606 : Int) := by omega
    have n8 : adS σ3 606 (ccL (List.range h)) 608 1 < (cap 608 : Int) := by rw [o1 _ _ (by decide) (by decide)]; omega
    have n0 : adS (adS σ3 606 (ccL (List.range h))) 608 (-1) 610 1 < (cap 610 : Int) := by rw [o2 _ _ (by decide) (by decide), o1 _ _ (by decide) (by decide)]; omega
    refine ⟨_, b168 ⟨_, d149 (WF_w w3 q1), _, d149 (WF_w w1 q2), _, d149 (WF_w w2 q3), rfl⟩, w4, ⟨?_, fun n a hn => ?_, ?_, ?_, fun n a hn0 hn => ?_⟩, fun c k h => by rw [o3 c k (by omega) (by omega), o2 c k (by omega) (by omega)]; exact o1 c k (by omega) (by omega)⟩
    · rw [o3 _ _ (by decide) (by decide), o2 _ _ (by decide) (by decide), ad_sz n6, z6]; rfl
    · cases n with
      | zero =>
        cases hn
        rw [o3 _ _ (by decide) (by decide), o2 _ _ (by decide) (by decide)]
        have z := ad_val (σ := σ3) (a := 606) (k := 0) (v := ccL (List.range h)) n6 (by omega)
        have z : adS σ3 606 (ccL (List.range h)) 607 0 = if ((0 : Nat) : Int) = σ3 606 1 then ccL (List.range h) else σ3 607 0 := z
        rw [z, if_pos (by omega)]
      | succ n => simp at hn
    · rw [o3 _ _ (by decide) (by decide), ad_sz n8, o1 _ _ (by decide) (by decide), z8]; rfl
    · rw [ad_sz n0, o2 _ _ (by decide) (by decide), o1 _ _ (by decide) (by decide), z0]; rfl
    · cases n with
      | zero => omega
      | succ n => simp at hn
  have K4 : SK s4 h st := SK_fr (by have := hst.1; omega) (fun c x hc => g4 c x (by omega)) K3
  obtain ⟨s, a1, a2, a3⟩ := l165a h4 hst 24 0 [(List.range h, st, 0, 0)] s4 (by omega) (DI_0 h4 hst) g2 K4 g3
  refine ⟨s, b165 ⟨_, d152 q1, _, d152 q2, _, d152 q3, ?_⟩, a2, fun c x y1 y2 => by rw [a3 c x y1 y2, g4 c x (by omega)]; exact f3 c x (by omega) (by omega) (by omega)⟩
  rw [← hσ3, K3.1]
  exact ⟨_, _, e166, _, g1, a1 none none⟩
end
