/-! Two patches merged: the pure walk. -/
noncomputable section
/-- where a hunk begins, and ends -/
def sO (l : List St) (h : Nat) : Nat := match l[h]? with
  | some q => q.1
  | none => 1000000
def eO (l : List St) (h : Nat) : Nat := match l[h]? with
  | some q => q.1 + q.2.1
  | none => 0
theorem sO_s {l : List St} {h : Nat} {q : St} (e : l[h]? = some q) : sO l h = q.1 := by unfold sO; rw [e]
theorem eO_s {l : List St} {h : Nat} {q : St} (e : l[h]? = some q) : eO l h = q.1 + q.2.1 := by unfold eO; rw [e]
theorem sO_n {l : List St} {h : Nat} (e : l.length ≤ h) : sO l h = 1000000 := by unfold sO; rw [List.getElem?_eq_none e]
/-- the new text's place of a place in a gap -/
def npF (l : List St) (h p : Nat) : Nat := ((p : Int) + dft l h).toNat
theorem DS_nx {F : Nat → Int} {nb na : Nat} : ∀ (l : List St) (h i j e : Nat) (r q : St), DS F nb na l i j e → l[h]? = some r → l[h + 1]? = some q → q.2.2.1 + (r.1 + r.2.1) = q.1 + (r.2.2.1 + r.2.2.2) ∧ r.1 + r.2.1 + 1 ≤ q.1 := by
  intro l
  induction l with
  | nil => intro h i j e r q _ hr; simp at hr
  | cons a t ih =>
    intro h i j e r q D hr hq
    obtain ⟨d1, d2, d3, d4, d5, d6⟩ := D
    cases h with
    | zero =>
      cases hr
      have hq : t[0]? = some q := hq
      cases t with
      | nil => simp at hq
      | cons b u =>
        cases hq
        obtain ⟨k1, k2, -⟩ := d6
        omega
    | succ h => exact ih h _ _ _ r q d6 hr hq
theorem DS_fst {F : Nat → Int} {nb na : Nat} {l : List St} {q : St} (D : DS F nb na l 0 0 0) (hq : l[0]? = some q) : q.2.2.1 = q.1 := by
  cases l with
  | nil => simp at hq
  | cons a t =>
    cases hq
    have := D.2.1
    omega
theorem DS_lst {F : Nat → Int} {nb na : Nat} : ∀ (l : List St) (i j e : Nat) (r : St), DS F nb na l i j e → l[l.length - 1]? = some r → nb + (r.2.2.1 + r.2.2.2) = na + (r.1 + r.2.1) := by
  intro l
  induction l with
  | nil => intro i j e r _ h; simp at h
  | cons a t ih =>
    intro i j e r D h
    obtain ⟨d1, d2, d3, d4, d5, d6⟩ := D
    cases t with
    | nil =>
      have h : some a = some r := h
      cases h
      obtain ⟨k1, k2, k3, -⟩ := d6
      omega
    | cons b u => exact ih _ _ _ r d6 h
theorem dft_0 {l : List St} : dft l 0 = 0 := by unfold dft; rw [if_pos rfl]
theorem dft_s {l : List St} {h : Nat} {r : St} (e : l[h]? = some r) : dft l (h + 1) = ((r.2.2.1 + r.2.2.2 : Nat) : Int) - ((r.1 + r.2.1 : Nat) : Int) := by
  unfold dft
  rw [if_neg (by omega), Nat.add_sub_cancel, e]
/-- a hunk begins in the new text as much further on -/
theorem dft_at {F : Nat → Int} {nb na h : Nat} {l : List St} {q : St} (D : DS F nb na l 0 0 0) (hq : l[h]? = some q) : (q.2.2.1 : Int) = (q.1 : Int) + dft l h := by
  cases h with
  | zero => rw [dft_0, DS_fst D hq]; omega
  | succ h =>
    have hlt := (List.getElem?_eq_some_iff.mp hq).1
    obtain ⟨r, hr⟩ : ∃ r, l[h]? = some r := ⟨_, List.getElem?_eq_getElem (by omega)⟩
    have z := (DS_nx l h 0 0 0 r q D hr hq).1
    rw [dft_s hr]
    omega
theorem dft_e {F : Nat → Int} {nb na : Nat} {l : List St} (D : DS F nb na l 0 0 0) : (nb : Int) + dft l l.length = na := by
  cases hl : l.length with
  | zero =>
    rw [dft_0]
    have e : l = [] := List.eq_nil_of_length_eq_zero hl
    subst e
    have := D.2.2.1
    omega
  | succ n =>
    obtain ⟨r, hr⟩ : ∃ r, l[n]? = some r := ⟨_, List.getElem?_eq_getElem (by omega)⟩
    have z := DS_lst l 0 0 0 r D (by rw [hl]; exact hr)
    rw [dft_s hr]
    omega
/-- a place of a gap in the new text -/
theorem np_b {F : Nat → Int} {nb na h p : Nat} {l : List St} (D : DS F nb na l 0 0 0) (hh : h ≤ l.length) (h1 : peo l h 0 ≤ p) (h2 : p ≤ gnd nb l h) : ((npF l h p : Nat) : Int) = (p : Int) + dft l h ∧ npF l h p ≤ na := by
  have e0 : 0 ≤ (p : Int) + dft l h := by
    cases h with
    | zero => rw [dft_0]; omega
    | succ k =>
      obtain ⟨r, hr⟩ : ∃ r, l[k]? = some r := ⟨_, List.getElem?_eq_getElem (by omega)⟩
      rw [peo_l l k 0 r hr] at h1
      rw [dft_s hr]
      omega
  have e1 : ((npF l h p : Nat) : Int) = (p : Int) + dft l h := by unfold npF; omega
  refine ⟨e1, ?_⟩
  by_cases y : h < l.length
  · obtain ⟨q, hq⟩ : ∃ q, l[h]? = some q := ⟨_, List.getElem?_eq_getElem y⟩
    have z := dft_at D hq
    have b := (DS_b l 0 0 0 D).2.2 q (List.mem_of_getElem? hq)
    have g : gnd nb l h = q.1 := by unfold gnd; rw [hq]
    omega
  · have e : h = l.length := by omega
    have z := dft_e D
    have g := (DS_gap D hh).2.1
    rw [← e] at z
    omega
/-- what a patch makes of a stretch -/
def asF (X N : Nat → Int) : List St → Nat → Nat → List Int
  | [], p, hi => rlZ X p (hi - p)
  | q :: r, p, hi => rlZ X p (q.1 - p) ++ (rlZ N q.2.2.1 q.2.2.2 ++ asF X N r (q.1 + q.2.1) hi)
theorem asF_eq {F X N : Nat → Int} {nb na : Nat} {l : List St} (D : DS F nb na l 0 0 0) (E : EQL X N F nb) {hi : Nat} : ∀ (d a p : Nat), a + d ≤ l.length → peo l a 0 ≤ p → (0 < d → p ≤ sO l a) → (d = 0 → p ≤ hi) → peo l (a + d) 0 ≤ hi → hi ≤ gnd nb l (a + d) → asF X N ((l.drop a).take d) p hi = rlZ N (npF l a p) (npF l (a + d) hi - npF l a p) ∧ npF l a p ≤ npF l (a + d) hi := by
  intro d
  induction d with
  | zero =>
    intro a p ha h1 _ h2 h3 h4
    have h2 := h2 rfl
    rw [Nat.add_zero] at ha h3 h4 ⊢
    have g := DS_gap D ha
    have e1 := (np_b D ha h1 (by omega)).1
    have e2 := (np_b D ha h3 h4).1
    refine ⟨?_, by omega⟩
    rw [List.take_zero]
    show rlZ X p (hi - p) = _
    rw [show npF l a hi - npF l a p = hi - p by omega]
    refine rl_ext _ _ _ (fun x hx => ?_)
    have z := g.2.2 (p + x) (by omega) (by omega)
    have y := E (p + x) (by omega) (by omega)
    rw [y, z]
    congr 1
    omega
  | succ d ih =>
    intro a p ha h1 h0 _ h3 h4
    obtain ⟨q, hq⟩ : ∃ q, l[a]? = some q := ⟨_, List.getElem?_eq_getElem (by omega)⟩
    have h0 := h0 (by omega)
    rw [sO_s hq] at h0
    have gq : gnd nb l a = q.1 := by unfold gnd; rw [hq]
    have g := DS_gap D (show a ≤ l.length by omega)
    rw [gq] at g
    have e1 := (np_b D (show a ≤ l.length by omega) h1 (by rw [gq]; exact h0)).1
    have z := dft_at D hq
    have pe := peo_l l a 0 q hq
    have ds := dft_s hq
    have g1 := DS_gap D (show a + 1 ≤ l.length by omega)
    rw [pe] at g1
    have e2 := (np_b D (show a + 1 ≤ l.length by omega) (p := q.1 + q.2.1) (by rw [pe]; exact Nat.le_refl _) g1.1).1
    have ed : a + (d + 1) = a + 1 + d := by omega
    rw [ed] at h3 h4 ⊢
    obtain ⟨i1, i2⟩ := ih (a + 1) (q.1 + q.2.1) (by omega) (by rw [pe]; exact Nat.le_refl _) (fun hd => by
      obtain ⟨r, hr⟩ : ∃ r, l[a + 1]? = some r := ⟨_, List.getElem?_eq_getElem (by omega)⟩
      have y := (DS_nx l a 0 0 0 q r D hq hr).2
      rw [sO_s hr]
      omega) (fun hd => by subst hd; rw [Nat.add_zero, pe] at h3; exact h3) h3 h4
    have hdrop : (l.drop a).take (d + 1) = q :: (l.drop (a + 1)).take d := by
      rw [List.drop_eq_getElem_cons (show a < l.length by omega), List.take_succ_cons]
      congr 1
      have y := List.getElem?_eq_getElem (show a < l.length by omega)
      rw [hq] at y
      exact (Option.some.inj y).symm
    rw [hdrop]
    refine ⟨?_, by omega⟩
    show rlZ X p (q.1 - p) ++ (rlZ N q.2.2.1 q.2.2.2 ++ asF X N ((l.drop (a + 1)).take d) (q.1 + q.2.1) hi) = _
    rw [i1]
    have s1 : rlZ X p (q.1 - p) = rlZ N (npF l a p) (q.1 - p) := by
      refine rl_ext _ _ _ (fun x hx => ?_)
      have z := g.2.2 (p + x) (by omega) (by omega)
      have y := E (p + x) (by omega) (by omega)
      rw [y, z]
      congr 1
      omega
    rw [s1, show npF l (a + 1) (q.1 + q.2.1) = q.2.2.1 + q.2.2.2 by omega, rlZ_app, show q.2.2.1 = npF l a p + (q.1 - p) by omega, rlZ_app]
    congr 1
    omega
/-- the hunks that touch, by way of others -/
def clo (A B : List St) : Nat → Nat → Nat → Nat → Nat × Nat × Nat
  | 0, a, b, h => (a, b, h)
  | w + 1, a, b, h => if sO A a ≤ h then clo A B w (a + 1) b (max h (eO A a)) else if sO B b ≤ h then clo A B w a (b + 1) (max h (eO B b)) else (a, b, h)
theorem clo_n {A B : List St} {a b h : Nat} (h1 : ¬ sO A a ≤ h) (h2 : ¬ sO B b ≤ h) : ∀ w, clo A B w a b h = (a, b, h) := by
  intro w
  cases w with
  | zero => rfl
  | succ w =>
    show (if sO A a ≤ h then clo A B w (a + 1) b (max h (eO A a)) else if sO B b ≤ h then clo A B w a (b + 1) (max h (eO B b)) else (a, b, h)) = _
    rw [if_neg h1, if_neg h2]
theorem clo_A {A B : List St} {a b h w : Nat} (h1 : sO A a ≤ h) : clo A B (w + 1) a b h = clo A B w (a + 1) b (max h (eO A a)) := if_pos h1
theorem clo_B {A B : List St} {a b h w : Nat} (h1 : ¬ sO A a ≤ h) (h2 : sO B b ≤ h) : clo A B (w + 1) a b h = clo A B w a (b + 1) (max h (eO B b)) := (if_neg h1).trans (if_pos h2)
theorem sO_lt {l : List St} {a h : Nat} (h16 : h ≤ 100) (h1 : sO l a ≤ h) : a < l.length := by
  by_cases y : a < l.length
  · exact y
  · rw [sO_n (by omega)] at h1
    omega
/-- more turns than hunks change nothing -/
theorem clo_w {A B : List St} (bA : ∀ k, eO A k ≤ 100) (bB : ∀ k, eO B k ≤ 100) : ∀ (w w' a b h : Nat), (A.length - a) + (B.length - b) ≤ w → (A.length - a) + (B.length - b) ≤ w' → h ≤ 100 → clo A B w a b h = clo A B w' a b h := by
  intro w
  induction w with
  | zero =>
    intro w' a b h h1 h2 h3
    refine (clo_n (fun y => ?_) (fun y => ?_) w').symm
    · have := sO_lt h3 y
      omega
    · have := sO_lt h3 y
      omega
  | succ w ih =>
    intro w' a b h h1 h2 h3
    by_cases y1 : sO A a ≤ h
    · have l1 := sO_lt h3 y1
      obtain ⟨v, rfl⟩ : ∃ v, w' = v + 1 := ⟨w' - 1, by omega⟩
      rw [clo_A y1, clo_A y1]
      exact ih v _ _ _ (by omega) (by omega) (by have := bA a; omega)
    by_cases y2 : sO B b ≤ h
    · have l1 := sO_lt h3 y2
      obtain ⟨v, rfl⟩ : ∃ v, w' = v + 1 := ⟨w' - 1, by omega⟩
      rw [clo_B y1 y2, clo_B y1 y2]
      exact ih v _ _ _ (by omega) (by omega) (by have := bB b; omega)
    · rw [clo_n y1 y2, clo_n y1 y2]
/-- a hunk of the second patch may be taken first -/
theorem clo_b {A B : List St} (bA : ∀ k, eO A k ≤ 100) (bB : ∀ k, eO B k ≤ 100) : ∀ (w a b h : Nat), (A.length - a) + (B.length - b) ≤ w → h ≤ 100 → sO B b ≤ h → clo A B w a b h = clo A B w a (b + 1) (max h (eO B b)) := by
  intro w
  induction w with
  | zero =>
    intro a b h h1 h3 h2
    have := sO_lt h3 h2
    omega
  | succ w ih =>
    intro a b h h1 h3 h2
    have l1 := sO_lt h3 h2
    have b1 := bB b
    by_cases y1 : sO A a ≤ h
    · have l2 := sO_lt h3 y1
      have b2 := bA a
      rw [clo_A y1, clo_A (show sO A a ≤ max h (eO B b) by omega), ih (a + 1) b (max h (eO A a)) (by omega) (by omega) (by omega)]
      congr 1
      omega
    · rw [clo_B y1 h2]
      exact clo_w bA bB w (w + 1) a (b + 1) _ (by omega) (by omega) (by omega)
/-- what is known of a group -/
theorem clo_ok {A B : List St} {FA FB : Nat → Int} {nb na nc : Nat} (hnb : nb ≤ 100) (DA : DS FA nb na A 0 0 0) (DB : DS FB nb nc B 0 0 0) : ∀ (w a b h : Nat), (A.length - a) + (B.length - b) ≤ w → a ≤ A.length → b ≤ B.length → h ≤ nb → peo A a 0 ≤ h → peo B b 0 ≤ h → a ≤ (clo A B w a b h).1 ∧ (clo A B w a b h).1 ≤ A.length ∧ b ≤ (clo A B w a b h).2.1 ∧ (clo A B w a b h).2.1 ≤ B.length ∧ h ≤ (clo A B w a b h).2.2 ∧ (clo A B w a b h).2.2 ≤ nb ∧ peo A (clo A B w a b h).1 0 ≤ (clo A B w a b h).2.2 ∧ peo B (clo A B w a b h).2.1 0 ≤ (clo A B w a b h).2.2 ∧ ¬ sO A (clo A B w a b h).1 ≤ (clo A B w a b h).2.2 ∧ ¬ sO B (clo A B w a b h).2.1 ≤ (clo A B w a b h).2.2 ∧ (a < (clo A B w a b h).1 → sO A a ≤ (clo A B w a b h).2.2) ∧ (b < (clo A B w a b h).2.1 → sO B b ≤ (clo A B w a b h).2.2) := by
  intro w
  induction w with
  | zero =>
    intro a b h h1 h2 h3 h4 h5 h6
    have e : clo A B 0 a b h = (a, b, h) := rfl
    rw [e]
    refine ⟨Nat.le_refl _, h2, Nat.le_refl _, h3, Nat.le_refl _, h4, h5, h6, fun (y : sO A a ≤ h) => ?_, fun (y : sO B b ≤ h) => ?_, fun y => absurd y (Nat.lt_irrefl _), fun y => absurd y (Nat.lt_irrefl _)⟩
    · have := sO_lt (by omega) y
      omega
    · have := sO_lt (by omega) y
      omega
  | succ w ih =>
    intro a b h h1 h2 h3 h4 h5 h6
    by_cases y1 : sO A a ≤ h
    · have l1 := sO_lt (by omega) y1
      obtain ⟨q, hq⟩ : ∃ q, A[a]? = some q := ⟨_, List.getElem?_eq_getElem l1⟩
      have bq := (DS_b A 0 0 0 DA).2.2 q (List.mem_of_getElem? hq)
      have eq := eO_s hq
      rw [clo_A y1]
      obtain ⟨i1, i2, i3, i4, i5, i6, i7, i8, i9, i10, i11, i12⟩ := ih (a + 1) b (max h (eO A a)) (by omega) (by omega) h3 (by omega) (by rw [peo_l A a 0 q hq]; omega) (by omega)
      exact ⟨by omega, i2, i3, i4, by omega, i6, i7, i8, i9, i10, fun _ => by omega, i12⟩
    by_cases y2 : sO B b ≤ h
    · have l1 := sO_lt (by omega) y2
      obtain ⟨q, hq⟩ : ∃ q, B[b]? = some q := ⟨_, List.getElem?_eq_getElem l1⟩
      have bq := (DS_b B 0 0 0 DB).2.2 q (List.mem_of_getElem? hq)
      have eq := eO_s hq
      rw [clo_B y1 y2]
      obtain ⟨i1, i2, i3, i4, i5, i6, i7, i8, i9, i10, i11, i12⟩ := ih a (b + 1) (max h (eO B b)) (by omega) h2 (by omega) (by omega) (by omega) (by rw [peo_l B b 0 q hq]; omega)
      exact ⟨i1, i2, by omega, i4, by omega, i6, i7, i8, i9, i10, i11, fun _ => by omega⟩
    · rw [clo_n y1 y2]
      exact ⟨Nat.le_refl _, h2, Nat.le_refl _, h3, Nat.le_refl _, h4, h5, h6, y1, y2, fun y => absurd y (Nat.lt_irrefl _), fun y => absurd y (Nat.lt_irrefl _)⟩
/-- a group of one patch alone is one hunk -/
theorem clo_1 {A B : List St} {FA FB : Nat → Int} {nb na nc : Nat} (hnb : nb ≤ 100) (DA : DS FA nb na A 0 0 0) (DB : DS FB nb nc B 0 0 0) {w a b : Nat} (h1 : (A.length - a) + (B.length - b) ≤ w) (h2 : a ≤ A.length) (h3 : b ≤ B.length) (he : a < A.length ∨ b < B.length) (h4 : min (sO A a) (sO B b) ≤ nb) (h5 : peo A a 0 ≤ min (sO A a) (sO B b)) (h6 : peo B b 0 ≤ min (sO A a) (sO B b)) : (a < (clo A B w a b (min (sO A a) (sO B b))).1 ∨ b < (clo A B w a b (min (sO A a) (sO B b))).2.1) ∧ ((clo A B w a b (min (sO A a) (sO B b))).2.1 = b → (clo A B w a b (min (sO A a) (sO B b))).1 = a + 1) ∧ ((clo A B w a b (min (sO A a) (sO B b))).1 = a → (clo A B w a b (min (sO A a) (sO B b))).2.1 = b + 1) := by
  obtain ⟨v, rfl⟩ : ∃ v, w = v + 1 := ⟨w - 1, by omega⟩
  by_cases y1 : sO A a ≤ min (sO A a) (sO B b)
  · have l1 := sO_lt (by omega) y1
    obtain ⟨q, hq⟩ : ∃ q, A[a]? = some q := ⟨_, List.getElem?_eq_getElem l1⟩
    have bq := (DS_b A 0 0 0 DA).2.2 q (List.mem_of_getElem? hq)
    have eq := eO_s hq
    have sq := sO_s hq
    rw [clo_A y1]
    have em : max (min (sO A a) (sO B b)) (eO A a) = q.1 + q.2.1 := by omega
    rw [em]
    obtain ⟨i1, -⟩ := clo_ok hnb DA DB v (a + 1) b (q.1 + q.2.1) (by omega) (by omega) h3 (by omega) (by rw [peo_l A a 0 q hq]; exact Nat.le_refl _) (by omega)
    refine ⟨Or.inl (by omega), fun hb => ?_, fun ha => by omega⟩
    have nA : ¬ sO A (a + 1) ≤ q.1 + q.2.1 := fun y => by
      have l2 := sO_lt (by omega) y
      obtain ⟨r, hr⟩ : ∃ r, A[a + 1]? = some r := ⟨_, List.getElem?_eq_getElem l2⟩
      have z := (DS_nx A a 0 0 0 q r DA hq hr).2
      rw [sO_s hr] at y
      omega
    by_cases y2 : sO B b ≤ q.1 + q.2.1
    · exfalso
      have l2 := sO_lt (by omega) y2
      obtain ⟨r, hr⟩ : ∃ r, B[b]? = some r := ⟨_, List.getElem?_eq_getElem l2⟩
      have br := (DS_b B 0 0 0 DB).2.2 r (List.mem_of_getElem? hr)
      have er := eO_s hr
      obtain ⟨u, rfl⟩ : ∃ u, v = u + 1 := ⟨v - 1, by omega⟩
      rw [clo_B nA y2] at hb
      obtain ⟨-, -, i3, -⟩ := clo_ok hnb DA DB u (a + 1) (b + 1) (max (q.1 + q.2.1) (eO B b)) (by omega) (by omega) (by omega) (by omega) (by rw [peo_l A a 0 q hq]; omega) (by rw [peo_l B b 0 r hr]; omega)
      omega
    · rw [clo_n nA y2]
  · have y2 : sO B b ≤ min (sO A a) (sO B b) := by omega
    have l1 := sO_lt (by omega) y2
    obtain ⟨q, hq⟩ : ∃ q, B[b]? = some q := ⟨_, List.getElem?_eq_getElem l1⟩
    have bq := (DS_b B 0 0 0 DB).2.2 q (List.mem_of_getElem? hq)
    have eq := eO_s hq
    have sq := sO_s hq
    rw [clo_B y1 y2]
    have em : max (min (sO A a) (sO B b)) (eO B b) = q.1 + q.2.1 := by omega
    rw [em]
    obtain ⟨-, -, i3, -⟩ := clo_ok hnb DA DB v a (b + 1) (q.1 + q.2.1) (by omega) h2 (by omega) (by omega) (by omega) (by rw [peo_l B b 0 q hq]; exact Nat.le_refl _)
    refine ⟨Or.inr (by omega), fun hb => by omega, fun ha => ?_⟩
    have nB : ¬ sO B (b + 1) ≤ q.1 + q.2.1 := fun y => by
      have l2 := sO_lt (by omega) y
      obtain ⟨r, hr⟩ : ∃ r, B[b + 1]? = some r := ⟨_, List.getElem?_eq_getElem l2⟩
      have z := (DS_nx B b 0 0 0 q r DB hq hr).2
      rw [sO_s hr] at y
      omega
    by_cases y3 : sO A a ≤ q.1 + q.2.1
    · exfalso
      have l2 := sO_lt (by omega) y3
      obtain ⟨r, hr⟩ : ∃ r, A[a]? = some r := ⟨_, List.getElem?_eq_getElem l2⟩
      have br := (DS_b A 0 0 0 DA).2.2 r (List.mem_of_getElem? hr)
      have er := eO_s hr
      obtain ⟨u, rfl⟩ : ∃ u, v = u + 1 := ⟨v - 1, by omega⟩
      rw [clo_A y3] at ha
      obtain ⟨i1, -⟩ := clo_ok hnb DA DB u (a + 1) (b + 1) (max (q.1 + q.2.1) (eO A a)) (by omega) (by omega) (by omega) (by omega) (by rw [peo_l A a 0 r hr]; omega) (by rw [peo_l B b 0 q hq]; omega)
      omega
    · rw [clo_n y3 nB]
/-- two hunks are the same -/
def saP (NA NB : Nat → Int) (A B : List St) (a b : Nat) : Prop := ∃ q r, A[a]? = some q ∧ B[b]? = some r ∧ q.1 = r.1 ∧ q.2.1 = r.2.1 ∧ q.2.2.2 = r.2.2.2 ∧ ∀ k, k < q.2.2.2 → NA (q.2.2.1 + k) = NB (r.2.2.1 + k)
/-- what a patch makes of a group -/
def sdF (N : Nat → Int) (l : List St) (a a' lo hi : Nat) : List Int := rlZ N (npF l a lo) (npF l a' hi - npF l a lo)
/-- a group of both -/
def gpF (NA NB : Nat → Int) (A B : List St) (a b a' b' lo hi : Nat) : List Int × Nat := @ite _ (b' = b ∨ (a' = a + 1 ∧ b' = b + 1 ∧ saP NA NB A B a b)) (Classical.propDecidable _) (sdF NA A a a' lo hi, 0) (if a' = a then (sdF NB B b b' lo hi, 0) else (50001 :: (sdF NA A a a' lo hi ++ 50002 :: (sdF NB B b b' lo hi ++ [50003])), 1))
/-- all groups -/
def mgF (X NA NB : Nat → Int) (nb : Nat) (A B : List St) : Nat → Nat → Nat → Nat → List Int × Nat
  | 0, _, _, p => (rlZ X p (nb - p), 0)
  | w + 1, a, b, p => if a < A.length ∨ b < B.length then
      (rlZ X p (min (sO A a) (sO B b) - p) ++ ((gpF NA NB A B a b (clo A B (A.length + B.length) a b (min (sO A a) (sO B b))).1 (clo A B (A.length + B.length) a b (min (sO A a) (sO B b))).2.1 (min (sO A a) (sO B b)) (clo A B (A.length + B.length) a b (min (sO A a) (sO B b))).2.2).1 ++ (mgF X NA NB nb A B w (clo A B (A.length + B.length) a b (min (sO A a) (sO B b))).1 (clo A B (A.length + B.length) a b (min (sO A a) (sO B b))).2.1 (clo A B (A.length + B.length) a b (min (sO A a) (sO B b))).2.2).1), (gpF NA NB A B a b (clo A B (A.length + B.length) a b (min (sO A a) (sO B b))).1 (clo A B (A.length + B.length) a b (min (sO A a) (sO B b))).2.1 (min (sO A a) (sO B b)) (clo A B (A.length + B.length) a b (min (sO A a) (sO B b))).2.2).2 + (mgF X NA NB nb A B w (clo A B (A.length + B.length) a b (min (sO A a) (sO B b))).1 (clo A B (A.length + B.length) a b (min (sO A a) (sO B b))).2.1 (clo A B (A.length + B.length) a b (min (sO A a) (sO B b))).2.2).2)
    else (rlZ X p (nb - p), 0)
/-- where the walk stands -/
def mgI (nb : Nat) (A B : List St) (a b p : Nat) : Prop := a ≤ A.length ∧ b ≤ B.length ∧ p ≤ nb ∧ peo A a 0 ≤ p ∧ peo B b 0 ≤ p ∧ p ≤ sO A a ∧ p ≤ sO B b
/-- a group, all that is known -/
theorem mg_grp {A B : List St} {FA FB : Nat → Int} {nb na nc : Nat} (hnb : nb ≤ 100) (DA : DS FA nb na A 0 0 0) (DB : DS FB nb nc B 0 0 0) {a b p lo a' b' hi : Nat} (I : mgI nb A B a b p) (he : a < A.length ∨ b < B.length) (hlo : lo = min (sO A a) (sO B b)) (hc : clo A B (A.length + B.length) a b lo = (a', b', hi)) : p ≤ lo ∧ lo ≤ hi ∧ hi ≤ nb ∧ a ≤ a' ∧ a' ≤ A.length ∧ b ≤ b' ∧ b' ≤ B.length ∧ (a < a' ∨ b < b') ∧ (b' = b → a' = a + 1) ∧ (a' = a → b' = b + 1) ∧ mgI nb A B a' b' hi ∧ peo A a 0 ≤ lo ∧ peo B b 0 ≤ lo ∧ lo ≤ gnd nb A a ∧ lo ≤ gnd nb B b ∧ hi ≤ gnd nb A a' ∧ hi ≤ gnd nb B b' := by
  obtain ⟨i1, i2, i3, i4, i5, i6, i7⟩ := I
  have hln : lo ≤ nb := by
    rcases he with y | y
    · obtain ⟨q, hq⟩ : ∃ q, A[a]? = some q := ⟨_, List.getElem?_eq_getElem y⟩
      have bq := (DS_b A 0 0 0 DA).2.2 q (List.mem_of_getElem? hq)
      have := sO_s hq
      omega
    · obtain ⟨q, hq⟩ : ∃ q, B[b]? = some q := ⟨_, List.getElem?_eq_getElem y⟩
      have bq := (DS_b B 0 0 0 DB).2.2 q (List.mem_of_getElem? hq)
      have := sO_s hq
      omega
  obtain ⟨k1, k2, k3, k4, k5, k6, k7, k8, k9, k10, -, -⟩ := clo_ok hnb DA DB (A.length + B.length) a b lo (by omega) i1 i2 hln (by omega) (by omega)
  have z := clo_1 hnb DA DB (w := A.length + B.length) (a := a) (b := b) (by omega) i1 i2 he (by omega) (by omega) (by omega)
  rw [← hlo] at z
  rw [hc] at k1 k2 k3 k4 k5 k6 k7 k8 k9 k10 z
  have gg : ∀ (l : List St) (x y : Nat), x ≤ l.length → y ≤ nb → y ≤ sO l x → y ≤ gnd nb l x := fun l x y hx h1 h2 => by
    unfold gnd
    by_cases w : x < l.length
    · obtain ⟨q, hq⟩ : ∃ q, l[x]? = some q := ⟨_, List.getElem?_eq_getElem w⟩
      rw [sO_s hq] at h2
      rw [hq]
      exact h2
    · rw [List.getElem?_eq_none (by omega)]
      exact h1
  have k9 : ¬ sO A a' ≤ hi := k9
  have k10 : ¬ sO B b' ≤ hi := k10
  have k5 : lo ≤ hi := k5
  have k6 : hi ≤ nb := k6
  exact ⟨by omega, k5, k6, k1, k2, k3, k4, z.1, z.2.1, z.2.2, ⟨k2, k4, k6, k7, k8, by omega, by omega⟩, by omega, by omega, gg A a lo i1 hln (by omega), gg B b lo i2 hln (by omega), gg A a' hi k2 k6 (by omega), gg B b' hi k4 k6 (by omega)⟩
end
