/-! The world that the interpreter's heap tells of, and numbers of both kinds. -/
theorem inR_iff {x : Int} : inR x = true ↔ -2147483648 ≤ x ∧ x ≤ 2147483647 := by
  unfold inR; rw [Bool.and_eq_true, decide_eq_true_eq, decide_eq_true_eq]
theorem jI_toInt {x : Int} (h : inR x = true) : (Int32.ofInt x).toInt = x := by
  have h1 := inR_iff.mp h
  exact Int32.toInt_ofInt_of_le (by omega) (by omega)
theorem jL_toInt {x : Int} (h : inR x = true) : (Int64.ofInt x).toInt = x := by
  have h1 := inR_iff.mp h
  exact Int64.toInt_ofInt_of_le (by omega) (by omega)
theorem jI_lt {x y : Int} (hx : inR x = true) (hy : inR y = true) : Int32.ofInt x < Int32.ofInt y ↔ x < y := by
  rw [Int32.lt_iff_toInt_lt, jI_toInt hx, jI_toInt hy]
theorem jI_le {x y : Int} (hx : inR x = true) (hy : inR y = true) : Int32.ofInt x ≤ Int32.ofInt y ↔ x ≤ y := by
  rw [Int32.le_iff_toInt_le, jI_toInt hx, jI_toInt hy]
theorem jI_eq {x y : Int} (hx : inR x = true) (hy : inR y = true) : Int32.ofInt x = Int32.ofInt y ↔ x = y := by
  rw [← Int32.toInt_inj, jI_toInt hx, jI_toInt hy]
theorem jL_lt {x y : Int} (hx : inR x = true) (hy : inR y = true) : Int64.ofInt x < Int64.ofInt y ↔ x < y := by
  rw [Int64.lt_iff_toInt_lt, jL_toInt hx, jL_toInt hy]
theorem jL_eq {x y : Int} (hx : inR x = true) (hy : inR y = true) : Int64.ofInt x = Int64.ofInt y ↔ x = y := by
  rw [← Int64.toInt_inj, jL_toInt hx, jL_toInt hy]
theorem inR_0 : inR 0 = true := by decide
theorem jI_clamp {x : Int} (h : inR x = true) : (Int32.ofInt x).toNatClampNeg = x.toNat := by
  rw [← Int32.toNat_toInt, jI_toInt h]
theorem jI_in {x : Int} {n : Nat} (h : inR x = true) (h0 : 0 ≤ x) (hn : x < (n : Int)) : vp_in (Int32.ofInt x) n := by
  unfold vp_in
  rw [jI_clamp h]
  intro q
  rcases q with q | q
  · have h1 := (jI_lt h inR_0).mp q
    omega
  · omega
theorem jI_of (x : Int32) : inR x.toInt = true := inR_iff.mpr ⟨by have := x.le_toInt; omega, by have := x.toInt_lt; omega⟩
theorem bit32_in (f : Int32 → Int32 → Int32) (x y : Int) : inR (bit32 f x y) = true := jI_of _
theorem bit32_of (f : Int32 → Int32 → Int32) (x y : Int) : Int32.ofInt (bit32 f x y) = f (Int32.ofInt x) (Int32.ofInt y) := by unfold bit32; rw [Int32.ofInt_toInt]
theorem tdiv_in {x y : Int} (hx : inR x = true) (hy : 0 < y) : inR (Int.tdiv x y) = true := by
  have h1 := inR_iff.mp hx
  refine inR_iff.mpr ?_
  rcases Int.le_total 0 x with h | h
  · have a := Int.tdiv_nonneg h (Int.le_of_lt hy)
    have b' : Int.tdiv x y ≤ x := by rw [Int.tdiv_eq_ediv_of_nonneg h]; exact Int.ediv_le_self _ h
    omega
  · have e : Int.tdiv x y = -(Int.tdiv (-x) y) := by rw [Int.neg_tdiv, Int.neg_neg]
    have a := Int.tdiv_nonneg (show 0 ≤ -x by omega) (Int.le_of_lt hy)
    have b' : Int.tdiv (-x) y ≤ -x := by rw [Int.tdiv_eq_ediv_of_nonneg (by omega)]; exact Int.ediv_le_self _ (by omega)
    omega
theorem tmod_in {x y : Int} (hx : inR x = true) (hy : 0 < y) : inR (Int.tmod x y) = true := by
  have h1 := inR_iff.mp hx
  refine inR_iff.mpr ?_
  rcases Int.le_total 0 x with h | h
  · have a := Int.tmod_nonneg y h
    have b' : Int.tmod x y ≤ x := by
      have z := Int.mul_nonneg (Int.le_of_lt hy) (Int.tdiv_nonneg h (Int.le_of_lt hy))
      rw [Int.tmod_def]; omega
    omega
  · have e : Int.tmod x y = -(Int.tmod (-x) y) := by rw [Int.neg_tmod, Int.neg_neg]
    have a := Int.tmod_nonneg y (show 0 ≤ -x by omega)
    have b' : Int.tmod (-x) y ≤ -x := by
      have z := Int.mul_nonneg (Int.le_of_lt hy) (Int.tdiv_nonneg (show 0 ≤ -x by omega) (Int.le_of_lt hy))
      rw [Int.tmod_def]; omega
    omega
/-- the place of a value, of a field, of a cell -/
def rvO (ad : Nat → Nat) (q : Option Nat) : Value := match q with
  | none => .null
  | some a => .ref (ad a)
def cv (ad : Nat → Nat) (v : AV) : Value := match v with
  | .inl x => .int (Int32.ofInt x)
  | .inr (.inl x) => .long (Int64.ofInt x)
  | .inr (.inr q) => rvO ad q
def fvO (ad : Nat → Nat) (r : Option (Option Nat)) (x : Int) : Value := match r with
  | none => .int (Int32.ofInt x)
  | some q => rvO ad q
def fieldsO (ad : Nat → Nat) (rf : List (Option (Option Nat))) (f : Nat → Int) : List Value := (List.range rf.length).map (fun j => fvO ad (rf.getD j none) (f j))
def refsO (ad : Nat → Nat) (rf : List (Option (Option Nat))) : Nat → Option Nat := fun j => (rf.getD j none).bind (fun q => q.map ad)
def entO (cA : Nat → ClassId) (ad : Nat → Nat) (s : SH) (f : Nat → Int) : va_E :=
  if s.1 = 0 then .inl (cA 0, s.2.1, .inl (fun j => Int32.ofInt (f j)))
  else if s.1 = 1 then .inl (cA 1, s.2.1, .inr (.inl (fun j => Int64.ofInt (f j))))
  else if s.1 = 2 then .inl (cA 2, s.2.1, .inl (fun j => Int32.ofInt (f j)))
  else if s.1 = 3 then .inl (cA 3, s.2.2.length, .inr (.inr (.inr (.inr (refsO ad s.2.2)))))
  else if s.1 = 4 then .inl (cA 4, s.2.2.length, .inr (.inr (.inr (.inr (refsO ad s.2.2)))))
  else .inr (s.1 - 10, fieldsO ad s.2.2 f)
def wsO (cA : Nat → ClassId) (ad : Nat → Nat) (sh : List SH) (σ : Nat → Nat → Int) : va_W := (List.range sh.length).map (fun k => (ad k, entO cA ad (sh.getD k (0, 0, [])) (σ k)))
theorem wsO_len {cA : Nat → ClassId} {ad : Nat → Nat} {sh : List SH} {σ : Nat → Nat → Int} : (wsO cA ad sh σ).length = sh.length := by simp [wsO]
theorem wsO_at {cA : Nat → ClassId} {ad : Nat → Nat} {sh : List SH} {σ : Nat → Nat → Int} (j : Nat) : (wsO cA ad sh σ)[j]? = if j < sh.length then some (ad j, entO cA ad (sh.getD j (0, 0, [])) (σ j)) else none := by
  unfold wsO
  rw [List.getElem?_map]
  by_cases h : j < sh.length
  · rw [if_pos h, List.getElem?_range h]; rfl
  · rw [if_neg h, List.getElem?_eq_none (by simp; omega)]; rfl
theorem getD_of {α : Type} {l : List α} {a : Nat} {x d : α} (h : l[a]? = some x) : l.getD a d = x := by rw [List.getD_eq_getElem?_getD, h]; rfl
theorem lt_of_at {α : Type} {l : List α} {a : Nat} {x : α} (h : l[a]? = some x) : a < l.length := (List.getElem?_eq_some_iff.mp h).1
theorem wsO_get {cA : Nat → ClassId} {ad : Nat → Nat} {sh : List SH} {σ : Nat → Nat → Int} {a : Nat} {s : SH} (h : sh[a]? = some s) : (wsO cA ad sh σ)[a]? = some (ad a, entO cA ad s (σ a)) := by
  rw [wsO_at, if_pos (lt_of_at h), getD_of h]
theorem wsO_put {cA : Nat → ClassId} {ad : Nat → Nat} {sh : List SH} {σ : Nat → Nat → Int} {a k : Nat} {v : Int} {s : SH} (h : sh[a]? = some s) :
    wsO cA ad sh (upS σ a k v) = (wsO cA ad sh σ).set a (ad a, entO cA ad s (upS σ a k v a)) := by
  apply List.ext_getElem?
  intro j
  rw [wsO_at, List.getElem?_set, wsO_len, wsO_at]
  by_cases hj : a = j
  · subst hj
    rw [if_pos (lt_of_at h), if_pos rfl, if_pos (lt_of_at h), getD_of h]
  · rw [if_neg hj]
    have e : upS σ a k v j = σ j := by funext q; unfold upS; rw [if_neg (fun z => hj z.1.symm)]
    rw [e]
theorem wsO_setS {cA : Nat → ClassId} {ad : Nat → Nat} {sh : List SH} {σ : Nat → Nat → Int} {a : Nat} {s : SH} (h : a < sh.length) :
    wsO cA ad (sh.set a s) σ = (wsO cA ad sh σ).set a (ad a, entO cA ad s (σ a)) := by
  apply List.ext_getElem?
  intro j
  rw [wsO_at, List.getElem?_set, wsO_len, wsO_at, List.length_set]
  by_cases hj : a = j
  · subst hj
    rw [if_pos h, if_pos rfl, if_pos h, getD_of (by rw [List.getElem?_set, if_pos rfl, if_pos h])]
  · rw [if_neg hj, List.getD_eq_getElem?_getD, List.getElem?_set, if_neg hj, ← List.getD_eq_getElem?_getD]
/-- what a reference may be, with n cells -/
def okR (n : Nat) (q : Option Nat) : Prop := ∀ a, q = some a → a < n ∨ a = SCR
def okV (n : Nat) (v : AV) : Prop := match v with
  | .inl x => inR x = true
  | .inr (.inl x) => inR x = true
  | .inr (.inr q) => okR n q
def okH (h : HP) : Prop := (∀ a k, inR (h.2 a k) = true) ∧ (∀ a, h.1.length ≤ a → a < SCR → ∀ k, h.2 a k = 0) ∧ h.1.length ≤ SCR ∧ ∀ s ∈ h.1, ∀ r ∈ s.2.2, ∀ q, r = some q → okR h.1.length q
def okX (L : Nat) (xs : Nat → Int32) (σ : Nat → Nat → Int) : Prop := (∀ j, j < L → xs j = Int32.ofInt (σ SCR j)) ∧ σ (SCR + 1) 0 = (L : Int)
theorem okR_mono {n n' : Nat} {q : Option Nat} (h : okR n q) (hn : n ≤ n') : okR n' q := fun a ha => (h a ha).elim (fun z => Or.inl (Nat.lt_of_lt_of_le z hn)) Or.inr
theorem okV_mono {n n' : Nat} {v : AV} (h : okV n v) (hn : n ≤ n') : okV n' v := by
  unfold okV at *
  split <;> first | exact h | exact okR_mono h hn
theorem okR_no (n : Nat) : okR n none := fun a h => by cases h
/-- ad with one more place -/
def adN (ad : Nat → Nat) (n q : Nat) : Nat → Nat := fun a => if a = n then q else ad a
theorem rvO_adN {ad : Nat → Nat} {n q : Nat} {r : Option Nat} (h : okR n r) (hn : n < SCR) : rvO (adN ad n q) r = rvO ad r := by
  cases r with
  | none => rfl
  | some a =>
    have h1 := h a rfl
    show Value.ref (if a = n then q else ad a) = Value.ref (ad a)
    rw [if_neg (by omega)]
theorem cv_adN {ad : Nat → Nat} {n q : Nat} {v : AV} (h : okV n v) (hn : n < SCR) : cv (adN ad n q) v = cv ad v := by
  unfold okV at h
  unfold cv
  split <;> first | rfl | exact rvO_adN h hn
theorem cvs_adN {ad : Nat → Nat} {n q : Nat} {l : List AV} (h : ∀ v ∈ l, okV n v) (hn : n < SCR) : l.map (cv (adN ad n q)) = l.map (cv ad) := List.map_congr_left fun v hv => cv_adN (h v hv) hn
theorem entO_adN {cA : Nat → ClassId} {ad : Nat → Nat} {n q : Nat} {s : SH} {f : Nat → Int} (h : ∀ r ∈ s.2.2, ∀ z, r = some z → okR n z) (hn : n < SCR) : entO cA (adN ad n q) s f = entO cA ad s f := by
  have e1 : refsO (adN ad n q) s.2.2 = refsO ad s.2.2 := by
    funext j
    unfold refsO
    rw [List.getD_eq_getElem?_getD]
    cases hj : s.2.2[j]? with
    | none => rfl
    | some r =>
      cases r with
      | none => rfl
      | some z =>
        cases z with
        | none => rfl
        | some a =>
          have h1 := h _ (List.mem_of_getElem? hj) _ rfl a rfl
          show some (adN ad n q a) = some (ad a)
          unfold adN
          rw [if_neg (by omega)]
  have e2 : fieldsO (adN ad n q) s.2.2 f = fieldsO ad s.2.2 f := by
    unfold fieldsO
    apply List.map_congr_left
    intro j _
    rw [List.getD_eq_getElem?_getD]
    cases hj : s.2.2[j]? with
    | none => rfl
    | some r =>
      cases r with
      | none => rfl
      | some z => exact rvO_adN (h _ (List.mem_of_getElem? hj) _ rfl) hn
  unfold entO
  rw [e1, e2]
theorem wsO_new {cA : Nat → ClassId} {ad : Nat → Nat} {sh : List SH} {σ : Nat → Nat → Int} {s : SH} {q : Nat} (h : ∀ t ∈ sh, ∀ r ∈ t.2.2, ∀ z, r = some z → okR sh.length z) (hs : ∀ r ∈ s.2.2, ∀ z, r = some z → okR sh.length z) (hn : sh.length < SCR) :
    wsO cA (adN ad sh.length q) (sh ++ [s]) σ = wsO cA ad sh σ ++ [(q, entO cA ad s (σ sh.length))] := by
  apply List.ext_getElem?
  intro j
  rw [wsO_at, List.getElem?_append, wsO_len, wsO_at, List.length_append, List.length_singleton]
  by_cases hj : j < sh.length
  · have e : (sh ++ [s]).getD j (0, 0, []) = sh.getD j (0, 0, []) := by rw [List.getD_eq_getElem?_getD, List.getElem?_append_left hj, ← List.getD_eq_getElem?_getD]
    have e2 : adN ad sh.length q j = ad j := by unfold adN; rw [if_neg (by omega)]
    rw [if_pos (by omega), if_pos hj, if_pos hj, e, e2]
    have hm : sh.getD j (0, 0, []) ∈ sh := by rw [List.getD_eq_getElem?_getD, List.getElem?_eq_getElem hj]; exact List.getElem_mem hj
    rw [entO_adN (h _ hm) hn]
  · rw [if_neg hj]
    by_cases hj2 : j = sh.length
    · subst hj2
      have e2 : adN ad sh.length q sh.length = q := by unfold adN; rw [if_pos rfl]
      rw [if_pos (by omega), e2, getD_of (x := s) (by simp), entO_adN hs hn]
      simp
    · rw [if_neg (by omega), List.getElem?_eq_none (by simp; omega)]
/-- the known locals -/
def knL (ad : Nat → Nat) : Nat → List (Option AV) → List (Nat × Value)
  | _, [] => []
  | i, none :: t => knL ad (i + 1) t
  | i, some v :: t => (i, cv ad v) :: knL ad (i + 1) t
theorem knL_in {ad : Nat → Nat} : ∀ (L : List (Option AV)) (i j : Nat) (v : AV), L[j]? = some (some v) → (i + j, cv ad v) ∈ knL ad i L := by
  intro L
  induction L with
  | nil => intro i j v h; simp at h
  | cons x t ih =>
    intro i j v h
    cases j with
    | zero =>
      simp only [List.getElem?_cons_zero, Option.some.injEq] at h
      subst h
      exact List.mem_cons_self
    | succ j =>
      simp only [List.getElem?_cons_succ] at h
      have h1 := ih (i + 1) j v h
      rw [show i + 1 + j = i + (j + 1) by omega] at h1
      cases x with
      | none => exact h1
      | some y => exact List.mem_cons_of_mem _ h1
theorem knL_of {ad : Nat → Nat} : ∀ (L : List (Option AV)) (i : Nat) (q : Nat × Value), q ∈ knL ad i L → ∃ (j : Nat) (v : AV), L[j]? = some (some v) ∧ q = (i + j, cv ad v) := by
  intro L
  induction L with
  | nil => intro i q h; cases h
  | cons x t ih =>
    intro i q h
    cases x with
    | none =>
      obtain ⟨j, v, h1, h2⟩ := ih (i + 1) q h
      exact ⟨j + 1, v, by simpa using h1, by rw [h2, show i + 1 + j = i + (j + 1) by omega]⟩
    | some y =>
      rcases List.mem_cons.mp h with h | h
      · exact ⟨0, y, rfl, h⟩
      · obtain ⟨j, v, h1, h2⟩ := ih (i + 1) q h
        exact ⟨j + 1, v, by simpa using h1, by rw [h2, show i + 1 + j = i + (j + 1) by omega]⟩
theorem cv_cat {ad : Nat → Nat} (v : AV) : (cv ad v).category = avc v := by
  unfold cv avc
  split <;> first | rfl | skip
  rename_i q
  cases q <;> rfl
theorem cats {ad : Nat → Nat} (l : List AV) : ((l.map (cv ad)).map fun v => v.category).sum = (l.map avc).sum := by
  rw [List.map_map]
  congr 1
  exact List.map_congr_left fun v _ => cv_cat v
/-- a local is set: what the kit's list says is enough for ours -/
theorem has_set {ad : Nat → Nat} {ls : Array Slot} {nL j : Nat} {L : List (Option AV)} {v : AV} (hL : ∀ w, some w ∈ L → avc w = 1) (hj : j < L.length)
    (h : lv_has ls nL ((j, cv ad v) :: (knL ad 0 L).filter (fun q => !(q.1 == j) && !(q.1 + 1 == j && q.2.category == 2)))) : lv_has ls nL (knL ad 0 (L.set j (some v))) := by
  refine ⟨h.1, h.2.1, fun q hq => ?_⟩
  obtain ⟨i, w, h1, rfl⟩ := knL_of _ _ _ hq
  rw [List.getElem?_set] at h1
  by_cases hi : j = i
  · subst hi
    rw [if_pos rfl, if_pos hj] at h1
    cases h1
    exact h.2.2 _ (by rw [Nat.zero_add]; exact List.mem_cons_self)
  · rw [if_neg hi] at h1
    refine h.2.2 _ (List.mem_cons_of_mem _ (List.mem_filter.mpr ⟨knL_in L 0 i w h1, ?_⟩))
    have hc : (cv ad w).category = 1 := by rw [cv_cat]; exact hL w (List.mem_of_getElem? h1)
    simp only [hc, Nat.zero_add]
    have h2 : (i == j) = false := by simp; omega
    rw [h2]
    simp
