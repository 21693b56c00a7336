/-! Orders: the pure search. -/
noncomputable section
/-- two neighbours of a row of patches exchanged -/
def exA (ps : List Pt) (k : Nat) (p q : Pt) : List Pt := (ps.set k (exL p q)).set (k + 1) (exU p q)
theorem exA_get {ps : List Pt} {k x : Nat} {p q : Pt} (hk : k + 1 < ps.length) : (exA ps k p q)[x]? = if x = k then some (exL p q) else if x = k + 1 then some (exU p q) else ps[x]? := by
  unfold exA
  by_cases e : x = k + 1
  · subst e
    rw [List.getElem?_set_self (by rw [List.length_set]; exact hk), if_neg (by omega), if_pos rfl]
  · rw [List.getElem?_set_ne (by omega)]
    by_cases e2 : x = k
    · subst e2
      rw [List.getElem?_set_self (by omega), if_pos rfl]
    · rw [List.getElem?_set_ne (by omega), if_neg e2, if_neg e]
/-- a row of patches that follow each other, up to the text of st -/
def okL (h : Nat) (st l : List Pt) : Prop := l.length = h ∧ (∀ (x : Nat) (a : Pt), l[x]? = some a → okP a) ∧ (∀ (x : Nat) (a b : Pt), l[x]? = some a → l[x + 1]? = some b → chP a b) ∧ (∀ (a : Pt), l[0]? = some a → a.1 ≤ 16) ∧ ∀ (a b : Pt), l[h - 1]? = some a → st[h - 1]? = some b → a.2.1 = b.2.1 ∧ a.2.2.2.1 = b.2.2.2.1
theorem okL_sz {h : Nat} {st l : List Pt} (H : okL h st l) : ∀ (x : Nat) (a : Pt), l[x]? = some a → a.1 ≤ 16 + 16 * x ∧ a.2.1 ≤ 16 + 16 * (x + 1) := by
  intro x
  induction x with
  | zero =>
    intro a e
    have z := H.2.2.2.1 a e
    have y := (H.2.1 0 a e).2.2.2.2.2
    omega
  | succ x ih =>
    intro a e
    have hx := (List.getElem?_eq_some_iff.mp e).1
    obtain ⟨b, hb⟩ : ∃ b, l[x]? = some b := ⟨_, List.getElem?_eq_getElem (by omega)⟩
    have z := ih b hb
    have c := (H.2.2.1 x b a hb e).1
    have y := (H.2.1 _ a e).2.2.2.2.2
    omega
theorem okL_z {h k : Nat} {st l : List Pt} {p q : Pt} (H : okL h st l) (h4 : h ≤ 4) (hp : l[k]? = some p) (hq : l[k + 1]? = some q) : szP p q := by
  have hx := (List.getElem?_eq_some_iff.mp hq).1
  have := H.1
  exact sz_of (H.2.1 _ _ hp) (H.2.1 _ _ hq) (H.2.2.1 _ _ _ hp hq) (okL_sz H k p hp).1 (by omega)
theorem exA_ok {h k : Nat} {st l : List Pt} {p q : Pt} (H : okL h st l) (h4 : h ≤ 4) (hp : l[k]? = some p) (hq : l[k + 1]? = some q) (T : ¬ tcP p q) : okL h st (exA l k p q) := by
  have Z := okL_z H h4 hp hq
  have hx := (List.getElem?_eq_some_iff.mp hq).1
  obtain ⟨h1, h2, h3, h5, h6⟩ := H
  obtain ⟨b1, b2, b3, b4, b5, b6⟩ := ex_ok (h2 _ _ hp) (h2 _ _ hq) (h3 _ _ _ hp hq) T Z
  have G : ∀ x, (exA l k p q)[x]? = if x = k then some (exL p q) else if x = k + 1 then some (exU p q) else l[x]? := fun x => exA_get hx
  refine ⟨by unfold exA; rw [List.length_set, List.length_set]; exact h1, fun x a e => ?_, fun x a b e e2 => ?_, fun a e => ?_, fun a b e e2 => ?_⟩
  · rw [G] at e
    by_cases y : x = k
    · rw [if_pos y] at e
      cases e
      exact b1
    · rw [if_neg y] at e
      by_cases y2 : x = k + 1
      · rw [if_pos y2] at e
        cases e
        exact b2
      · rw [if_neg y2] at e
        exact h2 x a e
  · rw [G] at e e2
    by_cases y : x = k
    · rw [if_pos y] at e
      rw [if_neg (by omega), if_pos (by omega)] at e2
      cases e
      cases e2
      exact b3
    · rw [if_neg y] at e
      by_cases y2 : x = k + 1
      · rw [if_pos y2] at e
        rw [if_neg (by omega), if_neg (by omega)] at e2
        cases e
        subst y2
        have z := h3 (k + 1) q b hq e2
        exact ⟨z.1, z.2⟩
      · rw [if_neg y2] at e
        by_cases y3 : x + 1 = k
        · rw [if_pos y3] at e2
          cases e2
          have z := h3 x a p e (by rw [y3]; exact hp)
          exact ⟨z.1, z.2⟩
        · rw [if_neg y3, if_neg (by omega)] at e2
          exact h3 x a b e e2
  · rw [G] at e
    by_cases y : 0 = k
    · rw [if_pos y] at e
      cases e
      rw [b4]
      exact h5 p (by rw [y]; exact hp)
    · rw [if_neg y, if_neg (by omega)] at e
      exact h5 a e
  · rw [G, if_neg (by omega)] at e
    by_cases y : h - 1 = k + 1
    · rw [if_pos y] at e
      cases e
      have z := h6 q b (by rw [y]; exact hq) e2
      exact ⟨z.1, z.2⟩
    · rw [if_neg y] at e
      exact h6 a b e e2
/-- orders -/
def swL (l : List Nat) (k : Nat) : List Nat := (l.set k ((l[k + 1]?).getD 0)).set (k + 1) ((l[k]?).getD 0)
def pmL : Nat → List (List Nat)
  | 0 => [[]]
  | 1 => [[0]]
  | 2 => [[0, 1], [1, 0]]
  | 3 => [[0, 1, 2], [0, 2, 1], [1, 0, 2], [1, 2, 0], [2, 0, 1], [2, 1, 0]]
  | 4 => [[0, 1, 2, 3], [0, 1, 3, 2], [0, 2, 1, 3], [0, 2, 3, 1], [0, 3, 1, 2], [0, 3, 2, 1], [1, 0, 2, 3], [1, 0, 3, 2], [1, 2, 0, 3], [1, 2, 3, 0], [1, 3, 0, 2], [1, 3, 2, 0], [2, 0, 1, 3], [2, 0, 3, 1], [2, 1, 0, 3], [2, 1, 3, 0], [2, 3, 0, 1], [2, 3, 1, 0], [3, 0, 1, 2], [3, 0, 2, 1], [3, 1, 0, 2], [3, 1, 2, 0], [3, 2, 0, 1], [3, 2, 1, 0]]
  | _ => []
def ccL : List Nat → Int
  | [] => 0
  | a :: r => (a : Int) + 8 * ccL r
def mcL : Int → List Nat → Int
  | s, [] => s
  | s, a :: r => mcL (5 * s + (a : Int)) r
def xcd (x k : Int) : Int := iXor (iXor x (iShl (iAnd (iXor (iShr x (3 * k)) (iShr x (3 * (k + 1)))) 7) (3 * k))) (iShl (iAnd (iXor (iShr x (3 * k)) (iShr x (3 * (k + 1)))) 7) (3 * (k + 1)))
def fcN : Nat → Int
  | 0 => 0
  | n + 1 => iOr (fcN n) (iShl (n : Int) (3 * (n : Int)))
theorem pm_sw0 : ∀ h, h < 5 → ∀ l, l ∈ pmL h → ∀ k, k < h - 1 → (swL l k ∈ pmL h ∧ xcd (ccL l) (k : Int) = ccL (swL l k)) := by decide +kernel
theorem pm_sw (h : Nat) (h5 : h < 5) (l : List Nat) (hl : l ∈ pmL h) (k : Nat) (_ : k < 4) (hk : k + 1 < h) : swL l k ∈ pmL h ∧ xcd (ccL l) (k : Int) = ccL (swL l k) := pm_sw0 h h5 l hl k (by omega)
theorem pm_in : ∀ h, h < 5 → ∀ l, l ∈ pmL h → ∀ l', l' ∈ pmL h → (ccL l = ccL l' → l = l') ∧ (mcL 0 l = mcL 0 l' → l = l') := by decide +kernel
theorem pm_f : ∀ h, h < 5 → List.range h ∈ pmL h ∧ fcN h = ccL (List.range h) ∧ (pmL h).length ≤ 24 := by decide +kernel
theorem pm_l : ∀ h, h < 5 → ∀ l, l ∈ pmL h → l.length = h ∧ ∀ x, x ∈ l → x < 5 := by decide +kernel
/-- an order that was found: the order, its patches, from which, by which exchange -/
abbrev Oe := List Nat × List Pt × Nat × Nat
def stF (D : List Oe) (i k : Nat) : List Oe := match D[i]? with
  | none => D
  | some (e : Oe) => match (e.2.1)[k]?, (e.2.1)[k + 1]? with
    | some p, some q => @ite _ (swL e.1 k ∈ D.map (fun e : Oe => e.1)) (Classical.propDecidable _) D (@ite _ (tcP p q) (Classical.propDecidable _) D (D ++ [(swL e.1 k, exA e.2.1 k p q, i, k)]))
    | _, _ => D
theorem stF_e {D : List Oe} {i k : Nat} {e : Oe} {p q : Pt} (he : D[i]? = some e) (hp : e.2.1[k]? = some p) (hq : e.2.1[k + 1]? = some q) : stF D i k = @ite _ (swL e.1 k ∈ D.map (fun e : Oe => e.1)) (Classical.propDecidable _) D (@ite _ (tcP p q) (Classical.propDecidable _) D (D ++ [(swL e.1 k, exA e.2.1 k p q, i, k)])) := by
  unfold stF
  rw [he]
  show (match e.2.1[k]?, e.2.1[k + 1]? with
    | some p, some q => @ite _ (swL e.1 k ∈ D.map (fun e : Oe => e.1)) (Classical.propDecidable _) D (@ite _ (tcP p q) (Classical.propDecidable _) D (D ++ [(swL e.1 k, exA e.2.1 k p q, i, k)]))
    | _, _ => D) = _
  rw [hp, hq]
theorem stF_1 {D : List Oe} {i k : Nat} {e : Oe} {p q : Pt} (he : D[i]? = some e) (hp : e.2.1[k]? = some p) (hq : e.2.1[k + 1]? = some q) (m : swL e.1 k ∈ D.map (fun e : Oe => e.1)) : stF D i k = D := by rw [stF_e he hp hq, if_pos m]
theorem stF_2 {D : List Oe} {i k : Nat} {e : Oe} {p q : Pt} (he : D[i]? = some e) (hp : e.2.1[k]? = some p) (hq : e.2.1[k + 1]? = some q) (T : tcP p q) : stF D i k = D := by
  rw [stF_e he hp hq]
  by_cases m : swL e.1 k ∈ D.map (fun e : Oe => e.1)
  · rw [if_pos m]
  · rw [if_neg m, if_pos T]
theorem stF_3 {D : List Oe} {i k : Nat} {e : Oe} {p q : Pt} (he : D[i]? = some e) (hp : e.2.1[k]? = some p) (hq : e.2.1[k + 1]? = some q) (m : ¬ swL e.1 k ∈ D.map (fun e : Oe => e.1)) (T : ¬ tcP p q) : stF D i k = D ++ [(swL e.1 k, exA e.2.1 k p q, i, k)] := by rw [stF_e he hp hq, if_neg m, if_neg T]
/-- what was found is in order -/
def DI (h : Nat) (st : List Pt) (D : List Oe) : Prop := (∀ (n : Nat) (e : Oe), D[n]? = some e → e.1 ∈ pmL h ∧ okL h st e.2.1) ∧ (D.map (fun e : Oe => e.1)).Nodup ∧ (∃ e : Oe, D[0]? = some e ∧ e.1 = List.range h ∧ e.2.1 = st) ∧ ∀ (n : Nat) (e : Oe), 0 < n → D[n]? = some e → e.2.2.1 < n ∧ e.2.2.2 + 1 < h ∧ ∃ (e' : Oe) (p q : Pt), D[e.2.2.1]? = some e' ∧ e'.2.1[e.2.2.2]? = some p ∧ e'.2.1[e.2.2.2 + 1]? = some q ∧ ¬ tcP p q ∧ e.2.1 = exA e'.2.1 e.2.2.2 p q ∧ e.1 = swL e'.1 e.2.2.2
theorem DI_len {h : Nat} {st : List Pt} {D : List Oe} (H : DI h st D) (h4 : h ≤ 4) : D.length ≤ 24 := by
  have z : (D.map (fun e : Oe => e.1)).length ≤ (pmL h).length := List.Nodup.length_le_of_subset H.2.1 (fun x hx => by
    obtain ⟨e, he, rfl⟩ := List.mem_map.mp hx
    obtain ⟨n, hn⟩ := List.mem_iff_getElem?.mp he
    exact (H.1 n e hn).1)
  rw [List.length_map] at z
  have := (pm_f h (by omega)).2.2
  omega
theorem DI_0 {h : Nat} {st : List Pt} (h4 : h ≤ 4) (H : okL h st st) : DI h st [(List.range h, st, 0, 0)] := by
  refine ⟨fun n e he => ?_, by simp, ⟨_, rfl, rfl, rfl⟩, fun n e hn he => ?_⟩
  · cases n with
    | zero => cases he; exact ⟨(pm_f h (by omega)).1, H⟩
    | succ n => simp at he
  · cases n with
    | zero => omega
    | succ n => simp at he
theorem DI_pq {h : Nat} {st : List Pt} {D : List Oe} (H : DI h st D) {i k : Nat} (hi : i < D.length) (hk : k + 1 < h) : ∃ e p q, D[i]? = some e ∧ e.1 ∈ pmL h ∧ okL h st e.2.1 ∧ e.2.1[k]? = some p ∧ e.2.1[k + 1]? = some q := by
  have he : D[i]? = some D[i] := List.getElem?_eq_getElem hi
  obtain ⟨a1, a2⟩ := H.1 i _ he
  have := a2.1
  exact ⟨_, _, _, he, a1, a2, List.getElem?_eq_getElem (by omega), List.getElem?_eq_getElem (by omega)⟩
theorem DI_s {h : Nat} {st : List Pt} {D : List Oe} (H : DI h st D) (h4 : h ≤ 4) {i k : Nat} (hi : i < D.length) (hk : k + 1 < h) : DI h st (stF D i k) := by
  obtain ⟨e, p, q, he, he1, he2, hp, hq⟩ := DI_pq H hi hk
  by_cases m : swL e.1 k ∈ D.map (fun e : Oe => e.1)
  · rw [stF_1 he hp hq m]; exact H
  by_cases T : tcP p q
  · rw [stF_2 he hp hq T]; exact H
  rw [stF_3 he hp hq m T]
  obtain ⟨h1, h2, ⟨e0, h3, h3', h3''⟩, h5⟩ := H
  have old : ∀ {n : Nat} {a : Oe}, D[n]? = some a → (D ++ [(swL e.1 k, exA e.2.1 k p q, i, k)])[n]? = some a := fun {n a} hn => by
    rw [List.getElem?_append_left (List.getElem?_eq_some_iff.mp hn).1]
    exact hn
  have cs : ∀ {n : Nat} {a : Oe}, (D ++ [(swL e.1 k, exA e.2.1 k p q, i, k)])[n]? = some a → D[n]? = some a ∨ (n = D.length ∧ a = (swL e.1 k, exA e.2.1 k p q, i, k)) := fun {n a} hn => by
    by_cases y : n < D.length
    · rw [List.getElem?_append_left y] at hn
      exact Or.inl hn
    · rw [List.getElem?_append_right (by omega)] at hn
      have hx := (List.getElem?_eq_some_iff.mp hn).1
      rw [List.length_singleton] at hx
      rw [show n - D.length = 0 by omega] at hn
      cases hn
      exact Or.inr ⟨by omega, rfl⟩
  refine ⟨fun n a hn => ?_, ?_, ⟨e0, old h3, h3', h3''⟩, fun n a hn0 hn => ?_⟩
  · rcases cs hn with z | ⟨z1, z2⟩
    · exact h1 n a z
    · subst z2
      exact ⟨(pm_sw h (by omega) e.1 he1 k (by omega) hk).1, exA_ok he2 h4 hp hq T⟩
  · rw [List.map_append, List.nodup_append]
    refine ⟨h2, by simp, fun a ha b hb => ?_⟩
    have hb : b ∈ [swL e.1 k] := hb
    rw [List.mem_singleton.mp hb]
    exact fun z => m (z ▸ ha)
  · rcases cs hn with z | ⟨z1, z2⟩
    · obtain ⟨g1, g2, e', p', q', g3, g4, g5, g6, g7, g8⟩ := h5 n a hn0 z
      exact ⟨g1, g2, e', p', q', old g3, g4, g5, g6, g7, g8⟩
    · subst z2
      exact ⟨by show i < n; omega, hk, e, p, q, old he, hp, hq, T, rfl, rfl⟩
theorem stF_le {D : List Oe} {i k : Nat} : D.length ≤ (stF D i k).length := by
  unfold stF
  split
  · exact Nat.le_refl _
  · split
    · split
      · exact Nat.le_refl _
      · split
        · exact Nat.le_refl _
        · rw [List.length_append]; omega
    · exact Nat.le_refl _
/-- all exchanges of an order -/
def inF (i : Nat) : Nat → Nat → List Oe → List Oe
  | 0, _, D => D
  | d + 1, k, D => inF i d (k + 1) (stF D i k)
theorem inF_ok {h : Nat} {st : List Pt} {i : Nat} (h4 : h ≤ 4) : ∀ (d k : Nat) (D : List Oe), k + d < h ∨ d = 0 → DI h st D → i < D.length → DI h st (inF i d k D) ∧ i < (inF i d k D).length := by
  intro d
  induction d with
  | zero => intro k D _ H hi; exact ⟨H, hi⟩
  | succ d ih =>
    intro k D hk H hi
    have z := stF_le (D := D) (i := i) (k := k)
    exact ih (k + 1) (stF D i k) (by omega) (DI_s H h4 hi (by omega)) (by omega)
/-- all orders -/
def ouF (h : Nat) : Nat → Nat → List Oe → List Oe
  | 0, _, D => D
  | f + 1, i, D => if i < D.length then ouF h f (i + 1) (inF i (h - 1) 0 D) else D
/-- by which exchanges an order was found, the last one first -/
def pth (D : List Oe) : Nat → List Nat → Prop
  | n, [] => n = 0
  | n, m :: r => 0 < n ∧ ∃ e, D[n]? = some e ∧ e.2.2.2 = m ∧ pth D e.2.2.1 r
theorem pth_ex {h : Nat} {st : List Pt} {D : List Oe} (H : DI h st D) : ∀ (b n : Nat), n ≤ b → n < D.length → ∃ ms, pth D n ms ∧ ms.length ≤ n := by
  intro b
  induction b with
  | zero => intro n hn _; exact ⟨[], by show n = 0; omega, Nat.zero_le _⟩
  | succ b ih =>
    intro n hn hl
    by_cases y : n = 0
    · exact ⟨[], y, Nat.zero_le _⟩
    · have he : D[n]? = some D[n] := List.getElem?_eq_getElem hl
      have g := (H.2.2.2 n _ (by omega) he).1
      obtain ⟨ms, p1, p2⟩ := ih (D[n]).2.2.1 (by omega) (by omega)
      exact ⟨_ :: ms, ⟨by omega, _, he, rfl, p1⟩, by rw [List.length_cons]; omega⟩
end
