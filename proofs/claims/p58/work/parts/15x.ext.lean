/-! The interpreter on a longer heap: what makes nothing runs there alike. -/
noncomputable section
def hpC (r : Ctl) : HP := match r with
  | .inl F => F.2.2.2.1
  | .inr (.inl q) => q.2.2.2.2.2.1
  | .inr (.inr o) => o.2
def exH (E : List SH) (h : HP) : HP := (h.1 ++ E, h.2)
def exF (E : List SH) (F : Fr) : Fr := (F.1, F.2.1, F.2.2.1, exH E F.2.2.2.1, F.2.2.2.2.1, F.2.2.2.2.2)
def exC (E : List SH) (r : Ctl) : Ctl := match r with
  | .inl F => .inl (exF E F)
  | .inr (.inl q) => .inr (.inl (q.1, q.2.1, exF E q.2.2))
  | .inr (.inr o) => .inr (.inr (o.1, exH E o.2))
def Okx (E : List SH) (f : HP → Option Ctl) (h : HP) : Prop := ∀ r, f h = some r → h.1.length ≤ (hpC r).1.length ∧ ((hpC r).1.length = h.1.length → f (exH E h) = some (exC E r))
theorem ex_get {E : List SH} {h : HP} {a : Nat} {s : SH} (e : h.1[a]? = some s) : (exH E h).1[a]? = some s := by
  obtain ⟨l, e'⟩ := List.getElem?_eq_some_iff.mp e
  show (h.1 ++ E)[a]? = some s
  rw [List.getElem?_append_left l]
  exact e
theorem ex_set {E : List SH} {h : HP} {a : Nat} {s t : SH} (e : h.1[a]? = some s) : (exH E h).1.set a t = h.1.set a t ++ E := by
  obtain ⟨l, e'⟩ := List.getElem?_eq_some_iff.mp e
  show (h.1 ++ E).set a t = h.1.set a t ++ E
  exact List.set_append_left _ _ l
theorem ox_none {E : List SH} {h : HP} : Okx E (fun _ => none) h := fun r e => by cases e
theorem ox_some {E : List SH} {h : HP} (pc : Nat) (L : List (Option AV)) (st : List AV) (k n : Nat) : Okx E (fun h => some (.inl (pc, L, st, h, k, n))) h := fun r e => by
  cases e
  exact ⟨Nat.le_refl _, fun _ => rfl⟩
theorem ox_ite {E : List SH} {h : HP} {c : Prop} [Decidable c] {f g : HP → Option Ctl} (hf : Okx E f h) (hg : Okx E g h) : Okx E (fun h => if c then f h else g h) h := by
  intro r e
  by_cases hc : c
  · dsimp only at e ⊢
    rw [if_pos hc] at e ⊢
    exact hf r e
  · dsimp only at e ⊢
    rw [if_neg hc] at e ⊢
    exact hg r e
theorem ox_jmp {E : List SH} {h : HP} (pc : Nat) (off : Int) (L : List (Option AV)) (st : List AV) (k n : Nat) : Okx E (fun h => jmp pc off L st h k n) h := by
  unfold jmp
  exact ox_ite (ox_some _ _ _ _ _) ox_none
theorem ox_LdI {E : List SH} {h : HP} (j pc : Nat) (L : List (Option AV)) (st : List AV) (k n : Nat) : Okx E (fun h => sLdI j pc L st h k n) h := by
  unfold sLdI
  split
  · exact ox_some _ _ _ _ _
  · exact ox_none
theorem ox_LdA {E : List SH} {h : HP} (j pc : Nat) (L : List (Option AV)) (st : List AV) (k n : Nat) : Okx E (fun h => sLdA j pc L st h k n) h := by
  unfold sLdA
  split
  · exact ox_some _ _ _ _ _
  · exact ox_none
theorem ox_StI {E : List SH} {h : HP} (j pc : Nat) (L : List (Option AV)) (st : List AV) (k n : Nat) : Okx E (fun h => sStI j pc L st h k n) h := by
  unfold sStI
  split
  · exact ox_ite (ox_some _ _ _ _ _) ox_none
  · exact ox_none
theorem ox_StA {E : List SH} {h : HP} (j pc : Nat) (L : List (Option AV)) (st : List AV) (k n : Nat) : Okx E (fun h => sStA j pc L st h k n) h := by
  unfold sStA
  split
  · exact ox_ite (ox_some _ _ _ _ _) ox_none
  · exact ox_none
theorem ox_K {E : List SH} {h : HP} (v : Int) (pc : Nat) (L : List (Option AV)) (st : List AV) (k n : Nat) : Okx E (fun h => sK v pc L st h k n) h := by
  unfold sK
  exact ox_ite (ox_some _ _ _ _ _) ox_none
theorem ox_Bin {E : List SH} {h : HP} (f : Int → Int → Int) (pc : Nat) (L : List (Option AV)) (st : List AV) (k n : Nat) : Okx E (fun h => sBin f pc L st h k n) h := by
  unfold sBin
  split
  · exact ox_ite (ox_some _ _ _ _ _) ox_none
  · exact ox_none
theorem ox_Div {E : List SH} {h : HP} (f : Int → Int → Int) (pc : Nat) (L : List (Option AV)) (st : List AV) (k n : Nat) : Okx E (fun h => sDiv f pc L st h k n) h := by
  unfold sDiv
  split
  · exact ox_ite (ox_some _ _ _ _ _) ox_none
  · exact ox_none
theorem ox_Bit {E : List SH} {h : HP} (f : Int32 → Int32 → Int32) (pc : Nat) (L : List (Option AV)) (st : List AV) (k n : Nat) : Okx E (fun h => sBit f pc L st h k n) h := by
  unfold sBit
  split
  · exact ox_some _ _ _ _ _
  · exact ox_none
theorem ox_If {E : List SH} {h : HP} (c : Jvm.ClassFile.Cond) (off : Int) (pc : Nat) (L : List (Option AV)) (st : List AV) (k n : Nat) : Okx E (fun h => sIf c off pc L st h k n) h := by
  unfold sIf
  split
  · exact ox_ite (ox_ite (ox_some _ _ _ _ _) (ox_some _ _ _ _ _)) ox_none
  · exact ox_none
theorem ox_Cmp {E : List SH} {h : HP} (c : Jvm.ClassFile.Cond) (off : Int) (pc : Nat) (L : List (Option AV)) (st : List AV) (k n : Nat) : Okx E (fun h => sCmp c off pc L st h k n) h := by
  unfold sCmp
  split
  · exact ox_ite (ox_ite (ox_some _ _ _ _ _) (ox_some _ _ _ _ _)) ox_none
  · exact ox_none
theorem ox_Nul {E : List SH} {h : HP} (b : Bool) (off : Int) (pc : Nat) (L : List (Option AV)) (st : List AV) (k n : Nat) : Okx E (fun h => sNul b off pc L st h k n) h := by
  unfold sNul
  split
  · exact ox_ite (ox_jmp _ _ _ _ _ _) (ox_some _ _ _ _ _)
  · exact ox_none
theorem ox_Sw {E : List SH} {h : HP} (d lo hi : Int) (offs : Array Int) (pc : Nat) (L : List (Option AV)) (st : List AV) (k n : Nat) : Okx E (fun h => sSw d lo hi offs pc L st h k n) h := by
  unfold sSw
  split
  · refine ox_ite (ox_jmp _ _ _ _ _ _) ?_
    split
    · exact ox_jmp _ _ _ _ _ _
    · exact ox_none
  · exact ox_none
/-- a look at a place of the heap -/
theorem ox_get {E : List SH} {h : HP} {a : Nat} {f : Nat → Nat → List (Option (Option Nat)) → HP → Option Ctl} (H : ∀ kd ln rf, h.1[a]? = some (kd, ln, rf) → Okx E (f kd ln rf) h) : Okx E (fun h => match h.1[a]? with
    | some (kd, ln, rf) => f kd ln rf h
    | none => none) h := by
  intro r e
  dsimp only at e ⊢
  cases hs : h.1[a]? with
  | none => rw [hs] at e; cases e
  | some s =>
    obtain ⟨kd, ln, rf⟩ := s
    rw [hs] at e
    obtain ⟨p, q⟩ := H kd ln rf hs r e
    refine ⟨p, fun hl => ?_⟩
    rw [ex_get hs]
    exact q hl
theorem ox_upd {E : List SH} {h : HP} (pc : Nat) (L : List (Option AV)) (st : List AV) (k n : Nat) (g : (Nat → Nat → Int) → Nat → Nat → Int) : Okx E (fun h => some (.inl (pc, L, st, (h.1, g h.2), k, n))) h := fun r e => by
  cases e
  exact ⟨Nat.le_refl _, fun _ => rfl⟩
theorem ox_val {E : List SH} {h : HP} (pc : Nat) (L : List (Option AV)) (k n : Nat) (g : (Nat → Nat → Int) → List AV) : Okx E (fun h => some (.inl (pc, L, g h.2, h, k, n))) h := fun r e => by
  cases e
  exact ⟨Nat.le_refl _, fun _ => rfl⟩
theorem ox_putr {E : List SH} {h : HP} {a : Nat} {s t : SH} (e : h.1[a]? = some s) (pc : Nat) (L : List (Option AV)) (st : List AV) (k n : Nat) : Okx E (fun h => some (.inl (pc, L, st, (h.1.set a t, h.2), k, n))) h := fun r er => by
  cases er
  refine ⟨by show h.1.length ≤ (h.1.set a t).length; rw [List.length_set]; exact Nat.le_refl _, fun _ => ?_⟩
  dsimp only
  rw [ex_set e]
  rfl
theorem ox_GetF {E : List SH} {h : HP} (q : Option (Nat × Nat × Bool × Bool)) (pc : Nat) (L : List (Option AV)) (st : List AV) (k n : Nat) : Okx E (fun h => sGetF q pc L st h k n) h := by
  unfold sGetF
  split
  · rename_i ci f b a t
    refine ox_get (f := fun kd ln rf h => if kd = ci + 10 then match rf[f]? with
          | some none => some (.inl (pc, L, .inl (h.2 a f) :: t, h, k, n))
          | some (some r) => some (.inl (pc, L, .inr (.inr r) :: t, h, k, n))
          | none => none
        else none) (fun kd ln rf hs => ?_)
    refine ox_ite ?_ ox_none
    split
    · exact ox_val _ _ _ _ (fun σ => .inl (σ a f) :: t)
    · exact ox_some _ _ _ _ _
    · exact ox_none
  · exact ox_none
theorem ox_PutF {E : List SH} {h : HP} (m : Nat) (q : Option (Nat × Nat × Bool × Bool)) (pc : Nat) (L : List (Option AV)) (st : List AV) (k n : Nat) : Okx E (fun h => sPutF m q pc L st h k n) h := by
  unfold sPutF
  split
  · rename_i ci f fin isR v a t
    refine ox_get (f := fun kd ln rf h => if kd = ci + 10 ∧ fin = false ∧ isR = false ∧ rf[f]? = some none then some (.inl (pc, L, t, (h.1, upS h.2 a f v), k, n)) else none) (fun kd ln rf hs => ?_)
    exact ox_ite (ox_upd _ _ _ _ _ (fun σ => upS σ a f v)) ox_none
  · rename_i ci f fin isR r a t
    intro o e
    dsimp only at e ⊢
    cases hs : h.1[a]? with
    | none => rw [hs] at e; cases e
    | some s =>
      rw [hs] at e
      dsimp only at e
      split at e
      · rename_i hc
        cases e
        refine ⟨by show h.1.length ≤ (h.1.set _ _).length; rw [List.length_set]; exact Nat.le_refl _, fun _ => ?_⟩
        rw [ex_get hs]
        dsimp only
        rw [if_pos ⟨hc.1, hc.2.1, hc.2.2.1, Nat.lt_of_lt_of_le hc.2.2.2 (by show h.1.length ≤ (h.1 ++ E).length; rw [List.length_append]; exact Nat.le_add_right _ _)⟩, ex_set hs]
        rfl
      · cases e
  · exact ox_none
theorem ox_Iald {E : List SH} {h : HP} (pc : Nat) (L : List (Option AV)) (st : List AV) (k n : Nat) : Okx E (fun h => sIald pc L st h k n) h := by
  unfold sIald
  split
  · rename_i i a t
    refine ox_ite ?_ ?_
    · intro o e
      dsimp only at e ⊢
      split at e
      · rename_i hc
        cases e
        exact ⟨Nat.le_refl _, fun _ => by rw [if_pos (show 0 ≤ i ∧ i < (exH E h).2 (SCR + 1) 0 from hc)]; rfl⟩
      · cases e
    · refine ox_get (f := fun kd ln rf h => if kd = 0 ∧ 0 ≤ i ∧ i < (ln : Int) then some (.inl (pc, L, .inl (h.2 a i.toNat) :: t, h, k, n)) else none) (fun kd ln rf hs => ?_)
      exact ox_ite (ox_val _ _ _ _ (fun σ => .inl (σ a i.toNat) :: t)) ox_none
  · exact ox_none
theorem ox_Iast {E : List SH} {h : HP} (pc : Nat) (L : List (Option AV)) (st : List AV) (k n : Nat) : Okx E (fun h => sIast pc L st h k n) h := by
  unfold sIast
  split
  · rename_i v i a t
    refine ox_get (f := fun kd ln rf h => if kd = 0 ∧ 0 ≤ i ∧ i < (ln : Int) then some (.inl (pc, L, t, (h.1, upS h.2 a i.toNat v), k, n)) else none) (fun kd ln rf hs => ?_)
    exact ox_ite (ox_upd _ _ _ _ _ (fun σ => upS σ a i.toNat v)) ox_none
  · exact ox_none
theorem ox_Lald {E : List SH} {h : HP} (pc : Nat) (L : List (Option AV)) (st : List AV) (k n : Nat) : Okx E (fun h => sLald pc L st h k n) h := by
  unfold sLald
  split
  · rename_i i a t
    refine ox_get (f := fun kd ln rf h => if kd = 1 ∧ 0 ≤ i ∧ i < (ln : Int) then some (.inl (pc, L, .inr (.inl (h.2 a i.toNat)) :: t, h, k, n)) else none) (fun kd ln rf hs => ?_)
    exact ox_ite (ox_val _ _ _ _ (fun σ => .inr (.inl (σ a i.toNat)) :: t)) ox_none
  · exact ox_none
theorem ox_Last {E : List SH} {h : HP} (pc : Nat) (L : List (Option AV)) (st : List AV) (k n : Nat) : Okx E (fun h => sLast pc L st h k n) h := by
  unfold sLast
  split
  · rename_i v i a t
    refine ox_get (f := fun kd ln rf h => if kd = 1 ∧ 0 ≤ i ∧ i < (ln : Int) then some (.inl (pc, L, t, (h.1, upS h.2 a i.toNat v), k, n)) else none) (fun kd ln rf hs => ?_)
    exact ox_ite (ox_upd _ _ _ _ _ (fun σ => upS σ a i.toNat v)) ox_none
  · exact ox_none
theorem ox_Zald {E : List SH} {h : HP} (pc : Nat) (L : List (Option AV)) (st : List AV) (k n : Nat) : Okx E (fun h => sZald pc L st h k n) h := by
  unfold sZald
  split
  · rename_i i a t
    refine ox_get (f := fun kd ln rf h => if kd = 2 ∧ 0 ≤ i ∧ i < (ln : Int) then some (.inl (pc, L, .inl (h.2 a i.toNat) :: t, h, k, n)) else none) (fun kd ln rf hs => ?_)
    exact ox_ite (ox_val _ _ _ _ (fun σ => .inl (σ a i.toNat) :: t)) ox_none
  · exact ox_none
theorem ox_Zast {E : List SH} {h : HP} (pc : Nat) (L : List (Option AV)) (st : List AV) (k n : Nat) : Okx E (fun h => sZast pc L st h k n) h := by
  unfold sZast
  split
  · rename_i v i a t
    refine ox_get (f := fun kd ln rf h => if kd = 2 ∧ 0 ≤ i ∧ i < (ln : Int) ∧ (v = 0 ∨ v = 1) then some (.inl (pc, L, t, (h.1, upS h.2 a i.toNat v), k, n)) else none) (fun kd ln rf hs => ?_)
    exact ox_ite (ox_upd _ _ _ _ _ (fun σ => upS σ a i.toNat v)) ox_none
  · exact ox_none
theorem ox_Aald {E : List SH} {h : HP} (pc : Nat) (L : List (Option AV)) (st : List AV) (k n : Nat) : Okx E (fun h => sAald pc L st h k n) h := by
  unfold sAald
  split
  · rename_i i a t
    refine ox_get (f := fun kd ln rf h => if (kd = 3 ∨ kd = 4) ∧ 0 ≤ i ∧ i < (rf.length : Int) then match rf[i.toNat]? with
          | some (some r) => some (.inl (pc, L, .inr (.inr r) :: t, h, k, n))
          | _ => none
        else none) (fun kd ln rf hs => ?_)
    refine ox_ite ?_ ox_none
    split
    · exact ox_some _ _ _ _ _
    · exact ox_none
  · exact ox_none
theorem ox_Aast {E : List SH} {h : HP} (pc : Nat) (L : List (Option AV)) (st : List AV) (k n : Nat) : Okx E (fun h => sAast pc L st h k n) h := by
  unfold sAast
  split
  · rename_i r i a t
    intro o e
    dsimp only at e ⊢
    cases hs : h.1[a]? with
    | none => rw [hs] at e; cases e
    | some s =>
      cases hr : h.1[r]? with
      | none => rw [hs, hr] at e; cases e
      | some u =>
        rw [hs, hr] at e
        dsimp only at e
        split at e
        · rename_i hc
          cases e
          refine ⟨by show h.1.length ≤ (h.1.set _ _).length; rw [List.length_set]; exact Nat.le_refl _, fun _ => ?_⟩
          rw [ex_get hs, ex_get hr]
          dsimp only
          rw [if_pos hc, ex_set hs]
          rfl
        · cases e
  · exact ox_none
theorem ox_Alen {E : List SH} {h : HP} (pc : Nat) (L : List (Option AV)) (st : List AV) (k n : Nat) : Okx E (fun h => sAlen pc L st h k n) h := by
  unfold sAlen
  split
  · rename_i a t
    refine ox_ite (ox_val _ _ _ _ (fun σ => .inl (σ (SCR + 1) 0) :: t)) ?_
    refine ox_get (f := fun kd ln rf h => if kd < 3 then (if inR (ln : Int) = true then some (.inl (pc, L, .inl (ln : Int) :: t, h, k, n)) else none) else if kd < 5 then (if inR (rf.length : Int) = true then some (.inl (pc, L, .inl (rf.length : Int) :: t, h, k, n)) else none) else none) (fun kd ln rf hs => ?_)
    exact ox_ite (ox_ite (ox_some _ _ _ _ _) ox_none) (ox_ite (ox_ite (ox_some _ _ _ _ _) ox_none) ox_none)
  · exact ox_none
theorem ox_grow {E : List SH} {h : HP} {f : HP → Option Ctl} (H : ∀ r, f h = some r → (hpC r).1.length = h.1.length + 1) : Okx E f h := fun r e => by
  have := H r e
  exact ⟨by omega, fun h' => by omega⟩
theorem ox_NewA {E : List SH} {h : HP} (m kd pc : Nat) (L : List (Option AV)) (st : List AV) (k n : Nat) : Okx E (fun h => sNewA m kd pc L st h k n) h := by
  refine ox_grow (fun r e => ?_)
  unfold sNewA at e
  split at e
  · split at e
    · cases e
      show (h.1 ++ [_]).length = _
      rw [List.length_append]
      rfl
    · cases e
  · cases e
theorem ox_New {E : List SH} {h : HP} (m : Nat) (q : Option Nat) (pc : Nat) (L : List (Option AV)) (st : List AV) (k n : Nat) : Okx E (fun h => sNew m q pc L st h k n) h := by
  refine ox_grow (fun r e => ?_)
  unfold sNew at e
  split at e
  · split at e
    · split at e
      · cases e
        show (h.1 ++ [_]).length = _
        rw [List.length_append]
        rfl
      · cases e
    · cases e
  · cases e
theorem ox_call {E : List SH} {h : HP} (j : Nat) (as : List AV) (pc : Nat) (L : List (Option AV)) (t : List AV) (k n : Nat) : Okx E (fun h => some (.inr (.inl (j, as, (pc, L, t, h, k, n))))) h := fun r e => by
  cases e
  exact ⟨Nat.le_refl _, fun _ => rfl⟩
theorem ox_out {E : List SH} {h : HP} (v : Option AV ⊕ Nat) : Okx E (fun h => some (.inr (.inr (v, h)))) h := fun r e => by
  cases e
  exact ⟨Nat.le_refl _, fun _ => rfl⟩
theorem ox_Call {E : List SH} {h : HP} (m kd : Nat) (q : Option Nat) (pc : Nat) (L : List (Option AV)) (st : List AV) (k n : Nat) : Okx E (fun h => sCall m kd q pc L st h k n) h := by
  unfold sCall
  split
  · exact ox_none
  · rename_i j
    refine ox_ite ?_ (ox_ite ?_ (ox_ite ?_ ?_))
    · split
      · exact ox_ite (ox_some _ _ _ _ _) ox_none
      · exact ox_none
    · split
      · exact ox_ite (ox_some _ _ _ _ _) ox_none
      · exact ox_none
    · split
      · exact ox_ite (ox_some _ _ _ _ _) ox_none
      · exact ox_none
    · refine ox_ite ?_ ox_none
      split
      · rename_i a t _
        refine ox_get (f := fun kd ln rf h => if ownCi (M_o j) + 10 = kd then some (.inr (.inl (j, (List.take (M_n j) st).reverse, (pc, L, List.drop (M_n j) st, h, k + M_mc j, n + M_ms j)))) else none) (fun kd ln rf hs => ?_)
        exact ox_ite (ox_call _ _ _ _ _ _ _) ox_none
      · exact ox_call _ _ _ _ _ _ _
      · exact ox_call _ _ _ _ _ _ _
      · exact ox_none
theorem ox_Iret {E : List SH} {h : HP} (m : Nat) (st : List AV) : Okx E (fun h => sIret m st h) h := by
  unfold sIret
  split
  · exact ox_out _
  · exact ox_ite (ox_out _) ox_none
  · exact ox_none
theorem ox_Aret {E : List SH} {h : HP} (m : Nat) (st : List AV) : Okx E (fun h => sAret m st h) h := by
  unfold sAret
  split
  · exact ox_ite (ox_out _) ox_none
  · exact ox_none
theorem ox_Vret {E : List SH} {h : HP} (m : Nat) (st : List AV) : Okx E (fun h => sVret m st h) h := by
  unfold sVret
  split
  · exact ox_out _
  · exact ox_none
theorem ox_Throw {E : List SH} {h : HP} (m X : Nat) (st : List AV) (k n : Nat) : Okx E (fun h => sThrow m X st h k n) h := by
  unfold sThrow
  exact ox_ite (ox_out _) ox_none
theorem ox_stepOp {E : List SH} {h : HP} (m : Nat) (i : Instr) (pc : Nat) (L : List (Option AV)) (st : List AV) (k n : Nat) : Okx E (fun h => stepOp m i pc L st h k n) h := by
  unfold stepOp
  split
  all_goals first
    | exact ox_none
    | exact ox_LdI _ _ _ _ _ _
    | exact ox_LdA _ _ _ _ _ _
    | exact ox_StI _ _ _ _ _ _
    | exact ox_StA _ _ _ _ _ _
    | exact ox_K _ _ _ _ _ _
    | exact ox_some _ _ _ _ _
    | exact ox_Bin _ _ _ _ _ _
    | exact ox_Div _ _ _ _ _ _
    | exact ox_Bit _ _ _ _ _ _
    | exact ox_If _ _ _ _ _ _ _
    | exact ox_Cmp _ _ _ _ _ _ _
    | exact ox_Nul _ _ _ _ _ _ _
    | exact ox_jmp _ _ _ _ _ _
    | exact ox_Sw _ _ _ _ _ _ _ _ _
    | exact ox_GetF _ _ _ _ _ _
    | exact ox_PutF _ _ _ _ _ _ _
    | exact ox_Iald _ _ _ _ _
    | exact ox_Iast _ _ _ _ _
    | exact ox_Lald _ _ _ _ _
    | exact ox_Last _ _ _ _ _
    | exact ox_Zald _ _ _ _ _
    | exact ox_Zast _ _ _ _ _
    | exact ox_Aald _ _ _ _ _
    | exact ox_Aast _ _ _ _ _
    | exact ox_Alen _ _ _ _ _
    | exact ox_NewA _ _ _ _ _ _ _
    | exact ox_Call _ _ _ _ _ _ _ _
    | exact ox_Iret _ _
    | exact ox_Aret _ _
    | exact ox_Vret _ _
    | exact ox_ite (ox_K _ _ _ _ _ _) ox_none
    | exact ox_ite (ox_NewA _ _ _ _ _ _ _) (ox_ite (ox_NewA _ _ _ _ _ _ _) ox_none)
    | (split
       · exact ox_Throw _ _ _ _ _
       · exact ox_New _ _ _ _ _ _ _)
    | (split
       · exact ox_K _ _ _ _ _ _
       · exact ox_none)
    | (split
       · exact ox_some _ _ _ _ _
       · exact ox_none)
    | (split
       · exact ox_ite (ox_some _ _ _ _ _) ox_none
       · exact ox_none)
theorem ox_step {E : List SH} (m : Nat) (F : Fr) (r : Ctl) (e : step m F = some r) : F.2.2.2.1.1.length ≤ (hpC r).1.length ∧ ((hpC r).1.length = F.2.2.2.1.1.length → step m (exF E F) = some (exC E r)) := by
  obtain ⟨pc, L, st, h, k, n⟩ := F
  unfold step at e ⊢
  dsimp only [exF] at e ⊢
  cases ho : op m pc with
  | none => rw [ho] at e; cases e
  | some q =>
    rw [ho] at e
    exact ox_stepOp m q.1 pc L st k n r e
theorem ox_thr {m pc X : Nat} {h : HP} {o : Out} (e : thrOf m pc X h = some o) : o.2 = h ∧ ∀ E, thrOf m pc X (exH E h) = some (o.1, exH E o.2) := by
  unfold thrOf at e ⊢
  split at e
  · split at e
    · cases e
      exact ⟨rfl, fun E => by rename_i h1 h2; rw [if_pos h2]⟩
    · cases e
  · split at e
    · cases e
      exact ⟨rfl, fun E => by rename_i h1 h2; rw [if_pos h2]⟩
    · cases e
theorem ox_run (E : List SH) : ∀ (N m : Nat) (F : Fr) (o : Out), run N m F = some o → F.2.2.2.1.1.length ≤ o.2.1.length ∧ (o.2.1.length = F.2.2.2.1.1.length → run N m (exF E F) = some (o.1, exH E o.2)) := by
  intro N
  induction N with
  | zero => intro m F o e; cases e
  | succ N ih =>
    intro m F o e
    rw [run_eq] at e
    cases hs : step m F with
    | none => rw [hs] at e; cases e
    | some r =>
      rw [hs] at e
      obtain ⟨l1, x1⟩ := ox_step (E := E) m F r hs
      rcases r with F' | ⟨j, as, F'⟩ | q
      · dsimp only at e
        obtain ⟨l2, x2⟩ := ih m F' o e
        have l1' : F.2.2.2.1.1.length ≤ F'.2.2.2.1.1.length := l1
        refine ⟨by omega, fun hl => ?_⟩
        have hl1 : F'.2.2.2.1.1.length = F.2.2.2.1.1.length := by omega
        rw [run_eq, x1 hl1]
        exact x2 (by omega)
      · dsimp only at e
        have l1' : F.2.2.2.1.1.length ≤ F'.2.2.2.1.1.length := l1
        cases hc : run N j (entryF j as F'.2.2.2.1) with
        | none => rw [hc] at e; cases e
        | some q =>
          rw [hc] at e
          obtain ⟨l3, x3⟩ := ih j _ q hc
          have l3' : F'.2.2.2.1.1.length ≤ q.2.1.length := l3
          obtain ⟨w, h2⟩ := q
          rcases w with v | X
          · dsimp only at e
            obtain ⟨l4, x4⟩ := ih m _ o e
            have l4' : h2.1.length ≤ o.2.1.length := l4
            dsimp only at l3'
            refine ⟨by omega, fun hl => ?_⟩
            rw [run_eq, x1 (show F'.2.2.2.1.1.length = F.2.2.2.1.1.length by omega)]
            have e3 := x3 (show h2.1.length = F'.2.2.2.1.1.length by omega)
            have e4 := x4 (show o.2.1.length = h2.1.length by omega)
            show (match run N j (entryF j as (exH E F'.2.2.2.1)) with
              | none => none
              | some (.inl v, h) => run N m (pushO v (exF E F') h)
              | some (.inr X, h) => thrOf m F.1 X h) = _
            rw [show entryF j as (exH E F'.2.2.2.1) = exF E (entryF j as F'.2.2.2.1) from rfl, e3]
            exact e4
          · dsimp only at e l3'
            obtain ⟨t1, t2⟩ := ox_thr e
            rw [t1]
            refine ⟨by omega, fun hl => ?_⟩
            rw [run_eq, x1 (show F'.2.2.2.1.1.length = F.2.2.2.1.1.length by omega)]
            have e3 := x3 (show h2.1.length = F'.2.2.2.1.1.length by omega)
            show (match run N j (entryF j as (exH E F'.2.2.2.1)) with
              | none => none
              | some (.inl v, h) => run N m (pushO v (exF E F') h)
              | some (.inr X, h) => thrOf m F.1 X h) = _
            rw [show entryF j as (exH E F'.2.2.2.1) = exF E (entryF j as F'.2.2.2.1) from rfl, e3]
            have := t2 E
            rw [t1] at this
            exact this
      · dsimp only at e
        cases e
        refine ⟨l1, fun hl => ?_⟩
        rw [run_eq, x1 hl]
        rfl
theorem Ret_ex (E : List SH) {m : Nat} {pc : Nat} {L : List (Option AV)} {st : List AV} {S S' : List SH} {σ : Nat → Nat → Int} {k n : Nat} {v : Option AV ⊕ Nat} {σ' : Nat → Nat → Int} (hl : S'.length = S.length) (H : Ret m (pc, L, st, (S, σ), k, n) (v, (S', σ'))) : Ret m (pc, L, st, (S ++ E, σ), k, n) (v, (S' ++ E, σ')) := by
  obtain ⟨N, h⟩ := H
  exact ⟨N, (ox_run E N m _ _ h).2 hl⟩
end
