/-! What a patch of the stack needs: the pure walk, and the class's side. -/
noncomputable section
def chF : Pt → List Pt → Prop
  | _, [] => True
  | p, q :: r => chP p q ∧ chF q r
/-- a patch past a whole group -/
def pgo : List Pt → Pt → Option (List Pt)
  | [], _ => some []
  | g :: gs, p => @ite _ (tcP p g) (Classical.propDecidable _) none ((pgo gs (exU p g)).map (fun r => exL p g :: r))
theorem pgo_t {p g : Pt} {gs : List Pt} (T : tcP p g) : pgo (g :: gs) p = none := if_pos T
theorem pgo_n {p g : Pt} {gs : List Pt} (T : ¬ tcP p g) : pgo (g :: gs) p = (pgo gs (exU p g)).map (fun r => exL p g :: r) := if_neg T
theorem chF_U {p g : Pt} {gs : List Pt} (h : chF g gs) : chF (exU p g) gs := by
  cases gs with
  | nil => trivial
  | cons a t => exact ⟨h.1, h.2⟩
theorem sz_of {p q : Pt} {n : Nat} (Gp : okP p) (Gq : okP q) (C : chP p q) (h : p.1 ≤ 16 + 16 * n) (hn : n ≤ 3) : szP p q := by
  have a := Gp.2.2.2.2.2
  have b := Gq.2.2.2.2.2
  have c := C.1
  unfold szP
  omega
theorem pgo_ok : ∀ (gs : List Pt) (n : Nat) (p : Pt) (ms : List Pt), n + gs.length ≤ 4 → chF p gs → okP p → (∀ q, q ∈ gs → okP q) → p.1 ≤ 16 + 16 * n → pgo gs p = some ms → ms.length = gs.length ∧ (∀ q, q ∈ ms → okP q) ∧ ∀ m r, ms = m :: r → m.1 = p.1 ∧ m.2.2.1 = p.2.2.1 ∧ chF m r := by
  intro gs
  induction gs with
  | nil =>
    intro n p ms _ _ _ _ _ e
    have e : some ([] : List Pt) = some ms := e
    cases e
    exact ⟨rfl, fun q h => by simp at h, fun m r h => by cases h⟩
  | cons g gs ih =>
    intro n p ms hn C Gp Gs hz e
    have hn : n + (gs.length + 1) ≤ 4 := hn
    have Gg := Gs g List.mem_cons_self
    by_cases T : tcP p g
    · rw [pgo_t T] at e
      cases e
    · rw [pgo_n T] at e
      obtain ⟨b1, b2, b3, b4, b5, b6⟩ := ex_ok Gp Gg C.1 T (sz_of Gp Gg C.1 hz (by omega))
      cases hr : pgo gs (exU p g) with
      | none => rw [hr] at e; cases e
      | some r =>
        rw [hr] at e
        have e : some (exL p g :: r) = some ms := e
        cases e
        have c1 : (exU p g).1 + p.2.1 = p.1 + g.2.1 := b5
        have c2 := Gg.2.2.2.2.2
        have c3 := C.1.1
        obtain ⟨i1, i2, i3⟩ := ih (n + 1) (exU p g) r (by omega) (chF_U C.2) b2 (fun q h => Gs q (List.mem_cons_of_mem _ h)) (by omega) hr
        refine ⟨by rw [List.length_cons, List.length_cons, i1], fun q h => ?_, fun m t h => ?_⟩
        · rcases List.mem_cons.mp h with h | h
          · rw [h]; exact b1
          · exact i2 q h
        · cases h
          refine ⟨rfl, rfl, ?_⟩
          cases hr2 : r with
          | nil => trivial
          | cons m t =>
            obtain ⟨j1, j2, j3⟩ := i3 m t hr2
            exact ⟨⟨j1, fun x hx => by rw [j2]; exact b3.2 x hx⟩, j3⟩
/-- how long the texts of a row of patches get -/
theorem chF_sz : ∀ (r : List Pt) (n : Nat) (g : Pt), chF g r → okP g → (∀ q, q ∈ r → okP q) → g.1 ≤ 16 + 16 * n → n + r.length ≤ 4 → ∀ q, q ∈ g :: r → q.1 ≤ 96 ∧ q.2.1 ≤ 96 := by
  intro r
  induction r with
  | nil =>
    intro n g _ G _ hz hn q h
    have a := G.2.2.2.2.2
    have hn : n + 0 ≤ 4 := hn
    rcases List.mem_cons.mp h with h | h
    · rw [h]; omega
    · cases h
  | cons a t ih =>
    intro n g C G Gs hz hn q h
    have a1 := G.2.2.2.2.2
    have c := C.1.1
    have hn : n + (t.length + 1) ≤ 4 := hn
    rcases List.mem_cons.mp h with h | h
    · rw [h]; omega
    · exact ih (n + 1) a C.2 (Gs a List.mem_cons_self) (fun q h => Gs q (List.mem_cons_of_mem _ h)) (by omega) (by omega) q h
/-- a scratch patch is wide enough -/
def cwP (P : Nat) : Prop := isPatch P = true ∧ (∀ j, j = 1 ∨ j = 3 ∨ j = 5 ∨ j = 7 → 96 ≤ cap (P + j)) ∧ 388 ≤ cap (P + 9)
theorem cpG {m : Nat} (h : m < 5) : cwP (475 + 13 * m) ∧ qE 474 m (475 + 13 * m) = true := by
  have h2 : ∀ m, m < 5 → isPatch (475 + 13 * m) = true ∧ 96 ≤ cap (475 + 13 * m + 1) ∧ 96 ≤ cap (475 + 13 * m + 3) ∧ 96 ≤ cap (475 + 13 * m + 5) ∧ 96 ≤ cap (475 + 13 * m + 7) ∧ 388 ≤ cap (475 + 13 * m + 9) ∧ qE 474 m (475 + 13 * m) = true := by decide +kernel
  obtain ⟨a, b, c, d, e, f, g⟩ := h2 m h
  exact ⟨⟨a, fun j hj => by rcases hj with e | e | e | e <;> subst e <;> assumption, f⟩, g⟩
theorem cpT {m : Nat} (h : m < 5) : cwP (541 + 13 * m) ∧ qE 540 m (541 + 13 * m) = true := by
  have h2 : ∀ m, m < 5 → isPatch (541 + 13 * m) = true ∧ 96 ≤ cap (541 + 13 * m + 1) ∧ 96 ≤ cap (541 + 13 * m + 3) ∧ 96 ≤ cap (541 + 13 * m + 5) ∧ 96 ≤ cap (541 + 13 * m + 7) ∧ 388 ≤ cap (541 + 13 * m + 9) ∧ qE 540 m (541 + 13 * m) = true := by decide +kernel
  obtain ⟨a, b, c, d, e, f, g⟩ := h2 m h
  exact ⟨⟨a, fun j hj => by rcases hj with e | e | e | e <;> subst e <;> assumption, f⟩, g⟩
theorem HC_pb {σ : Sg} {P Q : Nat} {p : Pt} (hg : P + 13 ≤ Q ∨ Q + 13 ≤ P) (H : HC σ Q p) (z : p.1 ≤ 96 ∧ p.2.1 ≤ 96) (c : cwP P) : HC (pbS σ P Q) P p := by
  obtain ⟨N, h2, h4, h6⟩ := H
  have c1 := c.2.1 1 (by omega)
  have c3 := c.2.1 3 (by omega)
  have c5 := c.2.1 5 (by omega)
  have c7 := c.2.1 7 (by omega)
  have c9 := c.2.2
  obtain ⟨a1, a2, a3, a4⟩ := NP_pb hg N (by omega) (by omega) (by omega) (by omega) (by omega) (by omega) (by omega)
  exact ⟨a1, fun i hi => by rw [a2 i hi]; exact h2 i hi, fun i hi => by rw [a3 i hi]; exact h4 i hi, fun i hi => by rw [a4 i hi]; exact h6 i hi⟩
theorem EL_T {g : Nat} (h : g + 1 < 5) : EL 540 g (541 + 13 * g) (541 + 13 * (g + 1)) := ⟨5, by decide +kernel, by decide, h, (cpT (m := g) (by omega)).2, (cpT (m := g) (by omega)).1.1, (cpT h).2, (cpT h).1.1⟩
theorem l163 {d1} {size : Nat} (h4 : size ≤ 4) : ∀ (gs : List Pt) (g : Nat) (p : Pt) (pre : List Pt) (σ : Sg), g + gs.length = size → pre.length = g → chF p gs → okP p → (∀ q, q ∈ gs → okP q) → p.1 ≤ 16 + 16 * g → WF σ → HC σ (541 + 13 * g) p → (∀ x q, pre[x]? = some q → HC σ (541 + 13 * x) q) → (∀ x q, gs[x]? = some q → HC σ (475 + 13 * (g + x)) q) → (pgo gs p = none ∧ ∃ s, C163_12 d1 size g σ (rI 0 s) ∧ WF s ∧ ∀ c k, ¬ (352 ≤ c ∧ c ≤ 374) → ¬ (541 ≤ c ∧ c ≤ 605) → s c k = σ c k) ∨ ∃ ms s, pgo gs p = some ms ∧ (∀ {o : Rs}, C163_72 d1 size 0 s o → C163_12 d1 size g σ o) ∧ WF s ∧ (∀ x q, (pre ++ ms)[x]? = some q → HC s (541 + 13 * x) q) ∧ ∀ c k, ¬ (352 ≤ c ∧ c ≤ 374) → ¬ (541 ≤ c ∧ c ≤ 605) → s c k = σ c k := by
  intro gs
  induction gs with
  | nil =>
    intro g p pre σ h1 h3 C Gp Gs z w hp hpre hgs
    have h1 : g + 0 = size := h1
    refine Or.inr ⟨[], σ, rfl, fun {o} h => b163_12 ?_, w, fun x q h => ?_, fun _ _ _ _ => rfl⟩
    · rw [if_neg (by omega)]
      exact b163_70 h
    · rw [List.append_nil] at h
      exact hpre x q h
  | cons q gs ih =>
    intro g p pre σ h1 h3 C Gp Gs z w hp hpre hgs
    have h1 : g + (gs.length + 1) = size := h1
    have Gq := Gs q List.mem_cons_self
    have Z := sz_of Gp Gq C.1 z (by omega)
    have hz := Z
    obtain ⟨z1, z2, z3, z4⟩ := hz
    have c1 := C.1.1
    obtain ⟨t1, t2⟩ := cpT (m := g + 1) (by omega)
    obtain ⟨t3, t4⟩ := cpT (m := g) (by omega)
    obtain ⟨u1, u2⟩ := cpG (m := g) (by omega)
    have D1 := d96 (σ := σ) (P := 541 + 13 * (g + 1)) (Q := 475 + 13 * g) t1.1 u1.1 (by omega) (WF_pw w)
    have w1 : WF (pbS σ (541 + 13 * (g + 1)) (475 + 13 * g)) := WF_pb t1.1 u1.1 w
    have hq := hgs 0 q rfl
    rw [Nat.add_zero] at hq
    have hq1 := HC_pb (P := 541 + 13 * (g + 1)) (by omega) hq ⟨by omega, z3⟩ t1
    have hp1 : HC (pbS σ (541 + 13 * (g + 1)) (475 + 13 * g)) (541 + 13 * g) p := HC_fr (fun c k h => pb_off (by omega)) hp
    have E := EL_T (g := g) (by omega)
    have go : ∀ {o : Rs} (v : Int) (s : Sg), Dd 10 [vA 350, vA 540, vI g, vI 96] (pbS σ (541 + 13 * (g + 1)) (475 + 13 * g)) (rI v s) → (if v = 0 then o = rI 0 s else C163_12 d1 size ((g + 1 : Nat) : Int) s o) → C163_12 d1 size g σ o := by
      intro o v s r h
      refine b163_12 ?_
      rw [if_pos (by omega)]
      refine ⟨by omega, ?_⟩
      rw [if_pos (by omega)]
      refine ⟨by omega, by omega, 541 + 13 * (g + 1), by rw [show ((g : Int) + 1).toNat = g + 1 by omega]; exact t2, t1.1, by omega, 475 + 13 * g, by rw [tn]; exact u2, u1.1, _, D1, v, s, r, ?_⟩
      by_cases y : v = 0
      · rw [if_pos y] at h ⊢
        exact h
      · rw [if_neg y] at h ⊢
        rw [show (g : Int) + 1 = ((g + 1 : Nat) : Int) by omega]
        exact ⟨by omega, h⟩
    by_cases T : tcP p q
    · refine Or.inl ⟨pgo_t T, _, go 0 _ (ex_n E w1 hp1 hq1 T ⟨by omega, by omega, by omega, by omega⟩) ?_, w1, fun c k h h' => pb_off (by omega)⟩
      rw [if_pos rfl]
    · obtain ⟨s, r1, r2, r3, r4, r5⟩ := ex_c E (by omega) (by omega) (by omega) w1 hp1 hq1 Gp Gq C.1 T Z t3.2.1 t1.2.1 t3.2.2 t1.2.2
      obtain ⟨b1, b2, b3, b4, b5, b6⟩ := ex_ok Gp Gq C.1 T Z
      have c2 : (exU p q).1 + p.2.1 = p.1 + q.2.1 := b5
      have c3 := Gq.2.2.2.2.2
      have fr : ∀ c k, ¬ (352 ≤ c ∧ c ≤ 374) → ¬ (541 + 13 * g + 1 ≤ c ∧ c ≤ 541 + 13 * (g + 1) + 10) → s c k = σ c k := fun c k h h' => by
        rw [r5 c k (by omega) (by omega) (by omega) (by omega)]
        exact pb_off (by omega)
      have go1 : ∀ {o : Rs}, C163_12 d1 size ((g + 1 : Nat) : Int) s o → C163_12 d1 size g σ o := fun {o} h => go 1 s r1 (by rw [if_neg (show ¬ (1 : Int) = 0 by decide)]; exact h)
      rcases ih (g + 1) (exU p q) (pre ++ [exL p q]) s (by omega) (by rw [List.length_append, h3]; rfl) (chF_U C.2) b2 (fun q h => Gs q (List.mem_cons_of_mem _ h)) (by omega) r2 r4 (fun x a h => by
          by_cases y : x < g
          · rw [List.getElem?_append_left (by omega)] at h
            have hx := (List.getElem?_eq_some_iff.mp h).1
            exact HC_fr (fun c k h => fr c k (by omega) (by omega)) (hpre x a h)
          · rw [List.getElem?_append_right (by omega)] at h
            have hx := (List.getElem?_eq_some_iff.mp h).1
            rw [List.length_singleton] at hx
            rw [show x - pre.length = 0 by omega] at h
            cases h
            rw [show x = g by omega]
            exact r3) (fun x a h => by
          have hx := (List.getElem?_eq_some_iff.mp h).1
          have z := hgs (x + 1) a h
          rw [show g + (x + 1) = g + 1 + x by omega] at z
          exact HC_fr (fun c k h => fr c k (by omega) (by omega)) z) with ⟨n1, s', n2, n3, n4⟩ | ⟨ms, s', n1, n2, n3, n4, n5⟩
      · refine Or.inl ⟨by rw [pgo_n T, n1]; rfl, s', go1 n2, n3, fun c k h h' => by rw [n4 c k h h']; exact fr c k h (by omega)⟩
      · refine Or.inr ⟨exL p q :: ms, s', by rw [pgo_n T, n1]; rfl, fun {o} h => go1 (n2 h), n3, fun x a h => n4 x a (by rw [List.append_assoc]; exact h), fun c k h h' => by rw [n5 c k h h']; exact fr c k h (by omega)⟩
theorem l163c {d1} {size : Nat} {ms : List Pt} (hl : ms.length = size) (h4 : size ≤ 4) (hz : ∀ q, q ∈ ms → q.1 ≤ 96 ∧ q.2.1 ≤ 96) : ∀ (d x : Nat) (σ : Sg), x + d = size → WF σ → (∀ y q, ms[y]? = some q → HC σ (541 + 13 * y) q) → (∀ y q, y < x → ms[y]? = some q → HC σ (475 + 13 * y) q) → ∃ s, C163_72 d1 size x σ (rI 1 s) ∧ WF s ∧ (∀ y q, ms[y]? = some q → HC s (475 + 13 * y) q) ∧ ∀ c k, ¬ (474 ≤ c ∧ c ≤ 539) → s c k = σ c k := by
  intro d
  induction d with
  | zero =>
    intro x σ hd w h1 h2
    refine ⟨σ, b163_72 ?_, w, fun y q h => h2 y q ?_ h, fun _ _ _ => rfl⟩
    · rw [if_neg (by omega)]
    · have := (List.getElem?_eq_some_iff.mp h).1
      omega
  | succ d ih =>
    intro x σ hd w h1 h2
    obtain ⟨t1, t2⟩ := cpT (m := x) (by omega)
    obtain ⟨u1, u2⟩ := cpG (m := x) (by omega)
    have D1 := d96 (σ := σ) (P := 475 + 13 * x) (Q := 541 + 13 * x) u1.1 t1.1 (by omega) (WF_pw w)
    obtain ⟨q0, hq0⟩ : ∃ q0, ms[x]? = some q0 := ⟨_, List.getElem?_eq_getElem (by omega)⟩
    have k0 := HC_pb (P := 475 + 13 * x) (by omega) (h1 x q0 hq0) (hz q0 (List.mem_of_getElem? hq0)) u1
    obtain ⟨s, a1, a2, a3, a4⟩ := ih (x + 1) (pbS σ (475 + 13 * x) (541 + 13 * x)) (by omega) (WF_pb u1.1 t1.1 w) (fun y q h => HC_fr (fun c k h => pb_off (by have := (List.getElem?_eq_some_iff.mp ‹ms[y]? = some q›).1; omega)) (h1 y q h)) (fun y q hy h => by
      by_cases e : y = x
      · subst e
        rw [hq0] at h
        cases h
        exact k0
      · exact HC_fr (fun c k h => pb_off (by omega)) (h2 y q (by omega) h))
    refine ⟨s, b163_72 ?_, a2, a3, fun c k h => by rw [a4 c k h]; exact pb_off (by omega)⟩
    rw [if_pos (by omega), if_pos (by omega)]
    rw [show ((x + 1 : Nat) : Int) = (x : Int) + 1 by omega] at a1
    exact ⟨by omega, 475 + 13 * x, by rw [tn]; exact u2, u1.1, by omega, 541 + 13 * x, by rw [tn]; exact t2, t1.1, _, D1, by omega, a1⟩
/-- a patch moved past the group: sinkGroup -/
theorem d163 {σ : Sg} {P : Nat} {p : Pt} {G : List Pt} (hP : isPatch P = true) (hP2 : P + 13 ≤ 474) (hG : G.length ≤ 4) (C : chF p G) (Gp : okP p) (Gs : ∀ q, q ∈ G → okP q) (z : p.1 ≤ 16) (w : WF σ) (hp : HC σ P p) (hgs : ∀ x q, G[x]? = some q → HC σ (475 + 13 * x) q) : (pgo G p = none ∧ ∃ s, Dd 163 [vA 473, vA P, vI (G.length : Nat)] σ (rI 0 s) ∧ WF s ∧ (∀ x q, G[x]? = some q → HC s (475 + 13 * x) q) ∧ ∀ c k, ¬ (352 ≤ c ∧ c ≤ 374) → ¬ (474 ≤ c ∧ c ≤ 605) → s c k = σ c k) ∨ ∃ ms s, pgo G p = some ms ∧ Dd 163 [vA 473, vA P, vI (G.length : Nat)] σ (rI 1 s) ∧ WF s ∧ (∀ x q, ms[x]? = some q → HC s (475 + 13 * x) q) ∧ ∀ c k, ¬ (352 ≤ c ∧ c ≤ 374) → ¬ (474 ≤ c ∧ c ≤ 605) → s c k = σ c k := by
  obtain ⟨t1, t2⟩ := cpT (m := 0) (by omega)
  have D1 := d96 (σ := σ) (P := 541 + 13 * 0) (Q := P) t1.1 hP (by omega) (WF_pw w)
  have z2 := Gp.2.2.2.2.2
  have k0 := HC_pb (P := 541 + 13 * 0) (by omega) hp ⟨by omega, by omega⟩ t1
  have w1 : WF (pbS σ (541 + 13 * 0) P) := WF_pb t1.1 hP w
  have kg : ∀ x q, G[x]? = some q → HC (pbS σ (541 + 13 * 0) P) (475 + 13 * x) q := fun x q h => HC_fr (fun c k h' => pb_off (by have := (List.getElem?_eq_some_iff.mp h).1; omega)) (hgs x q h)
  have go : ∀ {o : Rs}, C163_12 (some (vA P)) (G.length : Nat) ((0 : Nat) : Int) (pbS σ (541 + 13 * 0) P) o → Dd 163 [vA 473, vA P, vI (G.length : Nat)] σ o := fun {o} h => b163 ⟨541 + 13 * 0, t2, t1.1, _, D1, h⟩
  rcases l163 (d1 := some (vA P)) (size := G.length) hG G 0 p [] (pbS σ (541 + 13 * 0) P) (by omega) rfl C Gp Gs (by omega) w1 k0 (fun x q h => by simp at h) (fun x q h => by rw [Nat.zero_add]; exact kg x q h) with ⟨n1, s, n2, n3, n4⟩ | ⟨ms, s, n1, n2, n3, n4, n5⟩
  · refine Or.inl ⟨n1, s, go n2, n3, fun x q h => ?_, fun c k h h' => by rw [n4 c k h (by omega)]; exact pb_off (by omega)⟩
    have := (List.getElem?_eq_some_iff.mp h).1
    exact HC_fr (fun c k h' => n4 c k (by omega) (by omega)) (kg x q h)
  · obtain ⟨m1, m2, m3⟩ := pgo_ok G 0 p ms (by omega) C Gp Gs (by omega) n1
    have hz : ∀ q, q ∈ ms → q.1 ≤ 96 ∧ q.2.1 ≤ 96 := by
      cases hms : ms with
      | nil => intro q h; cases h
      | cons m r =>
        obtain ⟨j1, j2, j3⟩ := m3 m r hms
        rw [hms] at m1 m2
        rw [List.length_cons] at m1
        exact chF_sz r 0 m j3 (m2 m List.mem_cons_self) (fun q h => m2 q (List.mem_cons_of_mem _ h)) (by omega) (by omega)
    obtain ⟨s', a1, a2, a3, a4⟩ := l163c (d1 := some (vA P)) m1 hG hz G.length 0 s (by omega) n3 (fun y q h => n4 y q h) (fun y q h => absurd h (by omega))
    exact Or.inr ⟨ms, s', n1, go (n2 a1), a2, a3, fun c k h h' => by rw [a4 c k (by omega), n5 c k h (by omega)]; exact pb_off (by omega)⟩
theorem l164 {P : Nat} {p : Pt} {G : List Pt} {d2} (hP : isPatch P = true) (hP2 : P + 13 ≤ 474) (hG : G.length ≤ 4) (z : p.1 ≤ 96 ∧ p.2.1 ≤ 96) (hz : ∀ q, q ∈ G → q.1 ≤ 96 ∧ q.2.1 ≤ 96) : ∀ (x : Nat) (σ : Sg), x ≤ G.length → WF σ → HC σ P p → (∀ y q, y < x → G[y]? = some q → HC σ (475 + 13 * y) q) → (∀ y q, x ≤ y → G[y]? = some q → HC σ (475 + 13 * (y + 1)) q) → ∃ s, C164_12 P d2 x σ (rV s) ∧ WF s ∧ (∀ y q, (p :: G)[y]? = some q → HC s (475 + 13 * y) q) ∧ ∀ c k, ¬ (474 ≤ c ∧ c ≤ 539) → s c k = σ c k := by
  intro x
  induction x with
  | zero =>
    intro σ _ w hp h1 h2
    obtain ⟨u1, u2⟩ := cpG (m := 0) (by omega)
    have D1 := d96 (σ := σ) (P := 475 + 13 * 0) (Q := P) u1.1 hP (by omega) (WF_pw w)
    refine ⟨pbS σ (475 + 13 * 0) P, b164_12 ?_, WF_pb u1.1 hP w, fun y q h => ?_, fun c k h => pb_off (by omega)⟩
    · rw [if_neg (by omega)]
      exact ⟨475 + 13 * 0, u2, u1.1, _, D1, rfl⟩
    · cases y with
      | zero =>
        cases h
        exact HC_pb (by omega) hp z u1
      | succ y =>
        have h : G[y]? = some q := h
        exact HC_fr (fun c k h => pb_off (by omega)) (h2 y q (by omega) h)
  | succ x ih =>
    intro σ hx w hp h1 h2
    obtain ⟨u1, u2⟩ := cpG (m := x + 1) (by omega)
    obtain ⟨v1, v2⟩ := cpG (m := x) (by omega)
    have D1 := d96 (σ := σ) (P := 475 + 13 * (x + 1)) (Q := 475 + 13 * x) u1.1 v1.1 (by omega) (WF_pw w)
    obtain ⟨q0, hq0⟩ : ∃ q0, G[x]? = some q0 := ⟨_, List.getElem?_eq_getElem (by omega)⟩
    have k0 := HC_pb (P := 475 + 13 * (x + 1)) (by omega) (h1 x q0 (by omega) hq0) (hz q0 (List.mem_of_getElem? hq0)) u1
    obtain ⟨s, a1, a2, a3, a4⟩ := ih (pbS σ (475 + 13 * (x + 1)) (475 + 13 * x)) (by omega) (WF_pb u1.1 v1.1 w) (HC_fr (fun c k h => pb_off (by omega)) hp) (fun y q hy h => HC_fr (fun c k h => pb_off (by omega)) (h1 y q (by omega) h)) (fun y q hy h => by
      by_cases e : y = x
      · subst e
        rw [hq0] at h
        cases h
        exact k0
      · exact HC_fr (fun c k h => pb_off (by omega)) (h2 y q (by omega) h))
    refine ⟨s, b164_12 ?_, a2, a3, fun c k h => by rw [a4 c k h]; exact pb_off (by omega)⟩
    rw [if_pos (by omega)]
    rw [show (x : Int) = ((x + 1 : Nat) : Int) + (-1) by omega] at a1
    exact ⟨by omega, 475 + 13 * (x + 1), by rw [tn]; exact u2, u1.1, by omega, by omega, 475 + 13 * x, by rw [show (((x + 1 : Nat) : Int) - 1).toNat = x by omega]; exact v2, v1.1, _, D1, by omega, a1⟩
/-- which are needed: the rest of the walk down -/
def ndF (P : Nat → Pt) : Nat → List Pt → Int → Int
  | 0, _, S => S
  | j + 1, G, S => match pgo G (P j) with
    | some ms => ndF P j ms S
    | none => ndF P j (P j :: G) (iOr S (iShl 1 (j : Int)))
theorem ndF_s {P : Nat → Pt} {j : Nat} {G ms : List Pt} {S : Int} (h : pgo G (P j) = some ms) : ndF P (j + 1) G S = ndF P j ms S := by
  show (match pgo G (P j) with | some ms => ndF P j ms S | none => ndF P j (P j :: G) (iOr S (iShl 1 (j : Int)))) = _
  rw [h]
theorem ndF_n {P : Nat → Pt} {j : Nat} {G : List Pt} {S : Int} (h : pgo G (P j) = none) : ndF P (j + 1) G S = ndF P j (P j :: G) (iOr S (iShl 1 (j : Int))) := by
  show (match pgo G (P j) with | some ms => ndF P j ms S | none => ndF P j (P j :: G) (iOr S (iShl 1 (j : Int)))) = _
  rw [h]
/-- what the walk knows: the patches below, and the group -/
def ndI (P : Nat → Pt) (j : Nat) (G : List Pt) : Prop := (∀ i, i < j → okP (P i) ∧ (P i).1 ≤ 16 ∧ (P i).2.1 ≤ 16) ∧ (∀ i, i + 1 < j → chP (P i) (P (i + 1))) ∧ (∀ q, q ∈ G → okP q) ∧ G.length + j ≤ 5 ∧ ∃ g r, G = g :: r ∧ chF g r ∧ g.1 ≤ 16 ∧ ∀ i, j = i + 1 → chP (P i) g
theorem ndI_g {P : Nat → Pt} {j : Nat} {G : List Pt} (I : ndI P (j + 1) G) : G.length ≤ 4 ∧ chF (P j) G ∧ okP (P j) ∧ (∀ q, q ∈ G → okP q) ∧ (P j).1 ≤ 16 ∧ (P j).2.1 ≤ 16 ∧ ∀ q, q ∈ G → q.1 ≤ 96 ∧ q.2.1 ≤ 96 := by
  obtain ⟨i1, i2, i3, i4, g, r, rfl, i6, i7, i8⟩ := I
  obtain ⟨k1, k2, k3⟩ := i1 j (by omega)
  have i4 : r.length + 1 + (j + 1) ≤ 5 := i4
  refine ⟨by show r.length + 1 ≤ 4; omega, ⟨i8 j rfl, i6⟩, k1, i3, k2, k3, chF_sz r 0 g i6 (i3 g List.mem_cons_self) (fun q h => i3 q (List.mem_cons_of_mem _ h)) (by omega) (by omega)⟩
theorem ndI_s {P : Nat → Pt} {j : Nat} {G ms : List Pt} (I : ndI P (j + 1) G) (h : pgo G (P j) = some ms) : ndI P j ms ∧ ms.length = G.length := by
  obtain ⟨g1, g2, g3, g4, g5, g6, g7⟩ := ndI_g I
  obtain ⟨m1, m2, m3⟩ := pgo_ok G 0 (P j) ms (by omega) g2 g3 g4 (by omega) h
  obtain ⟨i1, i2, i3, i4, g, r, rfl, i6, i7, i8⟩ := I
  refine ⟨⟨fun i hi => i1 i (by omega), fun i hi => i2 i (by omega), m2, by omega, ?_⟩, m1⟩
  cases hms : ms with
  | nil => rw [hms] at m1; cases m1
  | cons m t =>
    obtain ⟨j1, j2, j3⟩ := m3 m t hms
    refine ⟨m, t, rfl, j3, by omega, fun i hi => ?_⟩
    subst hi
    obtain ⟨c1, c2⟩ := i2 i (by omega)
    exact ⟨by rw [j1]; exact c1, fun x hx => by rw [j2]; exact c2 x hx⟩
theorem ndI_n {P : Nat → Pt} {j : Nat} {G : List Pt} (I : ndI P (j + 1) G) : ndI P j (P j :: G) := by
  obtain ⟨g1, g2, g3, g4, g5, g6, g7⟩ := ndI_g I
  obtain ⟨i1, i2, i3, i4, -⟩ := I
  refine ⟨fun i hi => i1 i (by omega), fun i hi => i2 i (by omega), fun q h => ?_, by rw [List.length_cons]; omega, P j, G, rfl, g2, g5, fun i hi => ?_⟩
  · rcases List.mem_cons.mp h with h | h
    · rw [h]; exact g3
    · exact i3 q h
  · subst hi
    exact i2 i (by omega)
/-- the class's walk down -/
theorem l162 {P : Nat → Pt} {d2} : ∀ (j : Nat) (G : List Pt) (S : Int) (σ : Sg), ndI P j G → WF σ → (∀ i, i < j → HC σ (406 + 13 * i) (P i)) → (∀ x q, G[x]? = some q → HC σ (475 + 13 * x) q) → ∃ s, C162_49 d2 (G.length : Nat) S ((j : Int) - 1) σ (rI (ndF P j G S) s) ∧ WF s ∧ ∀ c k, ¬ (352 ≤ c ∧ c ≤ 374) → ¬ (474 ≤ c ∧ c ≤ 605) → s c k = σ c k := by
  intro j
  induction j with
  | zero =>
    intro G S σ I w hP hG
    refine ⟨σ, b162_49 ?_, w, fun _ _ _ _ => rfl⟩
    rw [if_neg (by omega)]
    rfl
  | succ j ih =>
    intro G S σ I w hP hG
    obtain ⟨g1, g2, g3, g4, g5, g6, g7⟩ := ndI_g I
    have hL := I.2.2.2.1
    obtain ⟨-, -, -, -, -, -, hPj, qPj⟩ := cpL (p := j) (by omega)
    rcases d163 (P := 406 + 13 * j) (G := G) hPj (by omega) g1 g2 g3 g4 g5 w (hP j (by omega)) hG with ⟨n1, s, n2, n3, n4, n5⟩ | ⟨ms, s, n1, n2, n3, n4, n5⟩
    · have hP' : ∀ i, i < j + 1 → HC s (406 + 13 * i) (P i) := fun i hi => HC_fr (fun c k h => n5 c k (by omega) (by omega)) (hP i hi)
      obtain ⟨s2, a1, a2, a3, a4⟩ := l164 (P := 406 + 13 * j) (p := P j) (G := G) (d2 := some (vI (G.length : Nat))) hPj (by omega) g1 ⟨by omega, by omega⟩ g7 G.length s (Nat.le_refl _) n3 (hP' j (by omega)) (fun y q _ h => n4 y q h) (fun y q hy h => absurd (List.getElem?_eq_some_iff.mp h).1 (by omega))
      have e164 : Dd 164 [vA 473, vA (406 + 13 * j), vI (G.length : Nat)] s (rV s2) := by
        refine b164 ?_
        rw [if_neg (by omega)]
        exact a1
      obtain ⟨s3, c1, c2, c3⟩ := ih (P j :: G) (iOr S (iShl 1 (j : Int))) s2 (ndI_n I) a2 (fun i hi => HC_fr (fun c k h => a4 c k (by omega)) (hP' i (by omega))) a3
      refine ⟨s3, b162_49 ?_, c2, fun c k h h' => by rw [c3 c k h h', a4 c k (by omega)]; exact n5 c k h h'⟩
      rw [ndF_n n1]
      rw [show ((j + 1 : Nat) : Int) - 1 = (j : Int) by omega, if_pos (by omega)]
      refine ⟨by omega, 406 + 13 * j, by rw [tn]; exact qPj, hPj, 0, s, n2, ?_⟩
      rw [if_pos rfl]
      refine ⟨by omega, 406 + 13 * j, by rw [tn]; exact qPj, hPj, s2, e164, by omega, b162_93 ⟨by omega, ?_⟩⟩
      rw [List.length_cons] at c1
      rw [show ((G.length : Nat) : Int) + 1 = ((G.length + 1 : Nat) : Int) by omega, show (j : Int) + (-1) = (j : Int) - 1 by omega]
      exact c1
    · obtain ⟨J, hl⟩ := ndI_s I n1
      obtain ⟨s3, c1, c2, c3⟩ := ih ms S s J n3 (fun i hi => HC_fr (fun c k h => n5 c k (by omega) (by omega)) (hP i (by omega))) n4
      refine ⟨s3, b162_49 ?_, c2, fun c k h h' => by rw [c3 c k h h']; exact n5 c k h h'⟩
      rw [ndF_s n1]
      rw [show ((j + 1 : Nat) : Int) - 1 = (j : Int) by omega, if_pos (by omega)]
      refine ⟨by omega, 406 + 13 * j, by rw [tn]; exact qPj, hPj, 1, s, n2, ?_⟩
      rw [if_neg (show ¬ (1 : Int) = 0 by decide)]
      refine b162_93 ⟨by omega, ?_⟩
      rw [hl] at c1
      rw [show (j : Int) + (-1) = (j : Int) - 1 by omega]
      exact c1
/-- neededSet -/
theorem d162 {σ : Sg} {P : Nat → Pt} {k : Nat} (hk : k < 5) (I : ndI P k [P k]) (w : WF σ) (hP : ∀ i, i ≤ k → HC σ (406 + 13 * i) (P i)) : ∃ s, Dd 162 [vA 473, vA 402, vI k] σ (rI (ndF P k [P k] 0) s) ∧ WF s ∧ ∀ c x, ¬ (352 ≤ c ∧ c ≤ 374) → ¬ (474 ≤ c ∧ c ≤ 605) → s c x = σ c x := by
  obtain ⟨u1, u2⟩ := cpG (m := 0) (by omega)
  obtain ⟨-, -, -, -, -, -, hPk, qPk⟩ := cpL (p := k) hk
  have D1 := d96 (σ := σ) (P := 475 + 13 * 0) (Q := 406 + 13 * k) u1.1 hPk (by omega) (WF_pw w)
  have w1 : WF (pbS σ (475 + 13 * 0) (406 + 13 * k)) := WF_pb u1.1 hPk w
  have gk := I.2.2.1 (P k) List.mem_cons_self
  have hk16 : (P k).1 ≤ 16 := by
    obtain ⟨g, r, e, -, h, -⟩ := I.2.2.2.2
    cases e
    exact h
  have z2 := gk.2.2.2.2.2
  have k0 := HC_pb (P := 475 + 13 * 0) (by omega) (hP k (Nat.le_refl _)) ⟨by omega, by omega⟩ u1
  obtain ⟨s, a1, a2, a3⟩ := l162 (P := P) (d2 := some (vI (k : Nat))) k [P k] 0 (pbS σ (475 + 13 * 0) (406 + 13 * k)) I w1 (fun i hi => HC_fr (fun c k h => pb_off (by omega)) (hP i (by omega))) (fun x q h => by
    cases x with
    | zero => cases h; exact k0
    | succ x => simp at h)
  refine ⟨s, b162 ?_, a2, fun c x h h' => by rw [a3 c x h h']; exact pb_off (by omega)⟩
  rw [if_pos (by omega), if_pos (by omega), if_neg (by omega)]
  exact ⟨475 + 13 * 0, u2, u1.1, by omega, 406 + 13 * k, by rw [tn]; exact qPk, hPk, _, D1, by omega, a1⟩
end
