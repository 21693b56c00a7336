/-! A run whose references stay among given cells changes no number elsewhere. -/
noncomputable section
def xfA (X : Nat → Prop) (v : AV) : Prop := ∀ a, v = .inr (.inr (some a)) → X a
def xlS (X : Nat → Prop) (st : List AV) : Prop := ∀ v, v ∈ st → xfA X v
def xlL (X : Nat → Prop) (L : List (Option AV)) : Prop := ∀ v, some v ∈ L → xfA X v
def xlH (X : Nat → Prop) (h : HP) : Prop := ∀ a, X a → ∀ (s : SH), h.1[a]? = some s → ∀ (i r : Nat), s.2.2[i]? = some (some (some r)) → X r
def xlC (X : Nat → Prop) (r : Ctl) : Prop := match r with
  | .inl F => xlL X F.2.1 ∧ xlS X F.2.2.1 ∧ xlH X F.2.2.2.1
  | .inr (.inl q) => xlS X q.2.1 ∧ xlL X q.2.2.2.1 ∧ xlS X q.2.2.2.2.1 ∧ xlH X q.2.2.2.2.2.1
  | .inr (.inr o) => (∀ v, o.1 = .inl (some v) → xfA X v) ∧ xlH X o.2
def Cf (X : Nat → Prop) (f : HP → Option Ctl) (h : HP) : Prop := ∀ r, f h = some r → (hpC r).1.length = h.1.length → xlC X r ∧ ∀ a, ¬ X a → ∀ k, (hpC r).2 a k = h.2 a k
theorem xf_int {X : Nat → Prop} (x : Int) : xfA X (.inl x) := fun a e => by cases e
theorem xf_long {X : Nat → Prop} (x : Int) : xfA X (.inr (.inl x)) := fun a e => by cases e
theorem xf_null {X : Nat → Prop} : xfA X (.inr (.inr none)) := fun a e => by cases e
theorem xf_ref {X : Nat → Prop} {a : Nat} (h : xfA X (.inr (.inr (some a)))) : X a := h a rfl
theorem xf_of {X : Nat → Prop} {a : Nat} (h : X a) : xfA X (.inr (.inr (some a))) := fun b e => by cases e; exact h
theorem xs_cons {X : Nat → Prop} {v : AV} {st : List AV} (h : xfA X v) (h' : xlS X st) : xlS X (v :: st) := fun w e => by
  cases e with
  | head => exact h
  | tail _ e => exact h' w e
theorem xs_head {X : Nat → Prop} {v : AV} {st : List AV} (h : xlS X (v :: st)) : xfA X v := h v (List.mem_cons_self ..)
theorem xs_tail {X : Nat → Prop} {v : AV} {st : List AV} (h : xlS X (v :: st)) : xlS X st := fun w e => h w (List.mem_cons_of_mem _ e)
theorem xl_set {X : Nat → Prop} {j : Nat} {v : AV} {L : List (Option AV)} (h : xfA X v) (h' : xlL X L) : xlL X (L.set j (some v)) := fun w e => by
  rcases List.mem_or_eq_of_mem_set e with e | e
  · exact h' w e
  · cases e; exact h
theorem xl_get {X : Nat → Prop} {j : Nat} {v : AV} {L : List (Option AV)} (h' : xlL X L) (e : L[j]? = some (some v)) : xfA X v := h' v (List.mem_of_getElem? e)
theorem xh_set {X : Nat → Prop} {h : HP} {a : Nat} {kd ln : Nat} {rf : List (Option (Option Nat))} {i r : Nat} {σ : Nat → Nat → Int} (hH : xlH X h) (l : X a) (e : h.1[a]? = some (kd, ln, rf)) (hr : X r) : xlH X (h.1.set a (kd, ln, rf.set i (some (some r))), σ) := by
  intro b lb s hs j u hu
  dsimp only at hs
  by_cases hab : a = b
  · subst hab
    obtain ⟨la, _⟩ := List.getElem?_eq_some_iff.mp e
    rw [List.getElem?_set_self la] at hs
    cases hs
    dsimp only at hu
    by_cases hij : i = j
    · subst hij
      rw [List.getElem?_set] at hu
      split at hu
      · split at hu
        · cases hu; exact hr
        · cases hu
      · exact absurd rfl ‹¬ i = i›
    · rw [List.getElem?_set_ne hij] at hu
      exact hH a l _ e j u hu
  · rw [List.getElem?_set_ne hab] at hs
    exact hH b lb s hs j u hu
theorem cf_none {X : Nat → Prop} {h : HP} : Cf X (fun _ => none) h := fun r e => by cases e
theorem cf_some {X : Nat → Prop} {h : HP} {pc : Nat} {L : List (Option AV)} {st : List AV} {k n : Nat} (hL : xlL X L) (hS : xlS X st) (hH : xlH X h) : Cf X (fun h => some (.inl (pc, L, st, h, k, n))) h := fun r e _ => by
  cases e
  exact ⟨⟨hL, hS, hH⟩, fun a _ k => rfl⟩
theorem cf_val {X : Nat → Prop} {h : HP} {pc : Nat} {L : List (Option AV)} {k n : Nat} {g : (Nat → Nat → Int) → List AV} (hL : xlL X L) (hS : xlS X (g h.2)) (hH : xlH X h) : Cf X (fun h => some (.inl (pc, L, g h.2, h, k, n))) h := fun r e _ => by
  cases e
  exact ⟨⟨hL, hS, hH⟩, fun a _ k => rfl⟩
theorem cf_upd {X : Nat → Prop} {h : HP} {pc : Nat} {L : List (Option AV)} {st : List AV} {k n a i : Nat} {v : Int} (l : X a) (hL : xlL X L) (hS : xlS X st) (hH : xlH X h) : Cf X (fun h => some (.inl (pc, L, st, (h.1, upS h.2 a i v), k, n))) h := fun r e _ => by
  cases e
  exact ⟨⟨hL, hS, hH⟩, fun b hb k => by
    show upS h.2 a i v b k = _
    unfold upS
    rw [if_neg]
    intro e
    exact hb (by rw [e.1]; exact l)⟩
theorem cf_ite {X : Nat → Prop} {h : HP} {c : Prop} [Decidable c] {f g : HP → Option Ctl} (hf : Cf X f h) (hg : Cf X g h) : Cf X (fun h => if c then f h else g h) h := by
  intro r e
  by_cases hc : c
  · dsimp only at e ⊢
    rw [if_pos hc] at e
    exact hf r e
  · dsimp only at e ⊢
    rw [if_neg hc] at e
    exact hg r e
theorem cf_jmp {X : Nat → Prop} {h : HP} {pc : Nat} {off : Int} {L : List (Option AV)} {st : List AV} {k n : Nat} (hL : xlL X L) (hS : xlS X st) (hH : xlH X h) : Cf X (fun h => jmp pc off L st h k n) h := by
  unfold jmp
  exact cf_ite (cf_some hL hS hH) cf_none
theorem cf_look {X : Nat → Prop} {h : HP} {a : Nat} (_l : X a) {f : Nat → Nat → List (Option (Option Nat)) → HP → Option Ctl} (H : ∀ kd ln rf, h.1[a]? = some (kd, ln, rf) → Cf X (f kd ln rf) h) : Cf X (fun h => match h.1[a]? with
    | some (kd, ln, rf) => f kd ln rf h
    | none => none) h := by
  intro r e hl
  dsimp only at e ⊢
  cases hs : h.1[a]? with
  | none => rw [hs] at e; cases e
  | some s =>
    obtain ⟨kd, ln, rf⟩ := s
    rw [hs] at e
    exact H kd ln rf hs r e hl
theorem cf_putr {X : Nat → Prop} {h : HP} {a : Nat} (l : X a) {kd ln : Nat} {rf : List (Option (Option Nat))} {i r : Nat} (e : h.1[a]? = some (kd, ln, rf)) (hr : X r) {pc : Nat} {L : List (Option AV)} {st : List AV} {k n : Nat} (hL : xlL X L) (hS : xlS X st) (hH : xlH X h) : Cf X (fun h => some (.inl (pc, L, st, (h.1.set a (kd, ln, rf.set i (some (some r))), h.2), k, n))) h := fun o er _ => by
  cases er
  exact ⟨⟨hL, hS, xh_set hH l e hr⟩, fun a _ k => rfl⟩
theorem cf_LdI {X : Nat → Prop} {h : HP} {j pc : Nat} {L : List (Option AV)} {st : List AV} {k n : Nat} (hL : xlL X L) (hS : xlS X st) (hH : xlH X h) : Cf X (fun h => sLdI j pc L st h k n) h := by
  unfold sLdI
  split
  · exact cf_some hL (xs_cons (xf_int _) hS) hH
  · exact cf_none
theorem cf_LdA {X : Nat → Prop} {h : HP} {j pc : Nat} {L : List (Option AV)} {st : List AV} {k n : Nat} (hL : xlL X L) (hS : xlS X st) (hH : xlH X h) : Cf X (fun h => sLdA j pc L st h k n) h := by
  unfold sLdA
  split
  · rename_i r e
    exact cf_some hL (xs_cons (xl_get hL e) hS) hH
  · exact cf_none
theorem cf_StI {X : Nat → Prop} {h : HP} {j pc : Nat} {L : List (Option AV)} {st : List AV} {k n : Nat} (hL : xlL X L) (hS : xlS X st) (hH : xlH X h) : Cf X (fun h => sStI j pc L st h k n) h := by
  unfold sStI
  split
  · exact cf_ite (cf_some (xl_set (xs_head hS) hL) (xs_tail hS) hH) cf_none
  · exact cf_none
theorem cf_StA {X : Nat → Prop} {h : HP} {j pc : Nat} {L : List (Option AV)} {st : List AV} {k n : Nat} (hL : xlL X L) (hS : xlS X st) (hH : xlH X h) : Cf X (fun h => sStA j pc L st h k n) h := by
  unfold sStA
  split
  · exact cf_ite (cf_some (xl_set (xs_head hS) hL) (xs_tail hS) hH) cf_none
  · exact cf_none
theorem cf_K {X : Nat → Prop} {h : HP} {v : Int} {pc : Nat} {L : List (Option AV)} {st : List AV} {k n : Nat} (hL : xlL X L) (hS : xlS X st) (hH : xlH X h) : Cf X (fun h => sK v pc L st h k n) h := by
  unfold sK
  exact cf_ite (cf_some hL (xs_cons (xf_int _) hS) hH) cf_none
theorem cf_Bin {X : Nat → Prop} {h : HP} {f : Int → Int → Int} {pc : Nat} {L : List (Option AV)} {st : List AV} {k n : Nat} (hL : xlL X L) (hS : xlS X st) (hH : xlH X h) : Cf X (fun h => sBin f pc L st h k n) h := by
  unfold sBin
  split
  · exact cf_ite (cf_some hL (xs_cons (xf_int _) (xs_tail (xs_tail hS))) hH) cf_none
  · exact cf_none
theorem cf_Div {X : Nat → Prop} {h : HP} {f : Int → Int → Int} {pc : Nat} {L : List (Option AV)} {st : List AV} {k n : Nat} (hL : xlL X L) (hS : xlS X st) (hH : xlH X h) : Cf X (fun h => sDiv f pc L st h k n) h := by
  unfold sDiv
  split
  · exact cf_ite (cf_some hL (xs_cons (xf_int _) (xs_tail (xs_tail hS))) hH) cf_none
  · exact cf_none
theorem cf_Bit {X : Nat → Prop} {h : HP} {f : Int32 → Int32 → Int32} {pc : Nat} {L : List (Option AV)} {st : List AV} {k n : Nat} (hL : xlL X L) (hS : xlS X st) (hH : xlH X h) : Cf X (fun h => sBit f pc L st h k n) h := by
  unfold sBit
  split
  · exact cf_some hL (xs_cons (xf_int _) (xs_tail (xs_tail hS))) hH
  · exact cf_none
theorem cf_If {X : Nat → Prop} {h : HP} {c : Jvm.ClassFile.Cond} {off : Int} {pc : Nat} {L : List (Option AV)} {st : List AV} {k n : Nat} (hL : xlL X L) (hS : xlS X st) (hH : xlH X h) : Cf X (fun h => sIf c off pc L st h k n) h := by
  unfold sIf
  split
  · exact cf_ite (cf_ite (cf_some hL (xs_tail hS) hH) (cf_some hL (xs_tail hS) hH)) cf_none
  · exact cf_none
theorem cf_Cmp {X : Nat → Prop} {h : HP} {c : Jvm.ClassFile.Cond} {off : Int} {pc : Nat} {L : List (Option AV)} {st : List AV} {k n : Nat} (hL : xlL X L) (hS : xlS X st) (hH : xlH X h) : Cf X (fun h => sCmp c off pc L st h k n) h := by
  unfold sCmp
  split
  · exact cf_ite (cf_ite (cf_some hL (xs_tail (xs_tail hS)) hH) (cf_some hL (xs_tail (xs_tail hS)) hH)) cf_none
  · exact cf_none
theorem cf_Nul {X : Nat → Prop} {h : HP} {b : Bool} {off : Int} {pc : Nat} {L : List (Option AV)} {st : List AV} {k n : Nat} (hL : xlL X L) (hS : xlS X st) (hH : xlH X h) : Cf X (fun h => sNul b off pc L st h k n) h := by
  unfold sNul
  split
  · exact cf_ite (cf_jmp hL (xs_tail hS) hH) (cf_some hL (xs_tail hS) hH)
  · exact cf_none
theorem cf_Sw {X : Nat → Prop} {h : HP} {d lo hi : Int} {offs : Array Int} {pc : Nat} {L : List (Option AV)} {st : List AV} {k n : Nat} (hL : xlL X L) (hS : xlS X st) (hH : xlH X h) : Cf X (fun h => sSw d lo hi offs pc L st h k n) h := by
  unfold sSw
  split
  · refine cf_ite (cf_jmp hL (xs_tail hS) hH) ?_
    split
    · exact cf_jmp hL (xs_tail hS) hH
    · exact cf_none
  · exact cf_none
theorem cf_GetF {X : Nat → Prop} {h : HP} {q : Option (Nat × Nat × Bool × Bool)} {pc : Nat} {L : List (Option AV)} {st : List AV} {k n : Nat} (hL : xlL X L) (hS : xlS X st) (hH : xlH X h) : Cf X (fun h => sGetF q pc L st h k n) h := by
  unfold sGetF
  split
  · rename_i ci f b a t
    have l := xf_ref (xs_head hS)
    refine cf_look l (f := fun kd ln rf h => if kd = ci + 10 then match rf[f]? with
          | some none => some (.inl (pc, L, .inl (h.2 a f) :: t, h, k, n))
          | some (some r) => some (.inl (pc, L, .inr (.inr r) :: t, h, k, n))
          | none => none
        else none) (fun kd ln rf hs => ?_)
    refine cf_ite ?_ cf_none
    split
    · exact cf_val (g := fun σ => .inl (σ a f) :: t) hL (xs_cons (xf_int _) (xs_tail hS)) hH
    · rename_i r e
      refine cf_some hL (xs_cons ?_ (xs_tail hS)) hH
      intro u eu
      cases eu
      exact hH a l _ hs _ _ e
    · exact cf_none
  · exact cf_none
theorem cf_PutF {X : Nat → Prop} {h : HP} {m : Nat} {q : Option (Nat × Nat × Bool × Bool)} {pc : Nat} {L : List (Option AV)} {st : List AV} {k n : Nat} (hL : xlL X L) (hS : xlS X st) (hH : xlH X h) : Cf X (fun h => sPutF m q pc L st h k n) h := by
  unfold sPutF
  split
  · rename_i ci f fin isR v a t
    have l := xf_ref (xs_head (xs_tail hS))
    refine cf_look l (f := fun kd ln rf h => if kd = ci + 10 ∧ fin = false ∧ isR = false ∧ rf[f]? = some none then some (.inl (pc, L, t, (h.1, upS h.2 a f v), k, n)) else none) (fun kd ln rf hs => ?_)
    exact cf_ite (cf_upd l hL (xs_tail (xs_tail hS)) hH) cf_none
  · rename_i ci f fin isR r a t
    have l := xf_ref (xs_head (xs_tail hS))
    have lr := xf_ref (xs_head hS)
    intro o e hl
    dsimp only at e ⊢
    cases hs : h.1[a]? with
    | none => rw [hs] at e; cases e
    | some s =>
      obtain ⟨kd, ln, rf⟩ := s
      rw [hs] at e
      dsimp only at e
      split at e
      · exact cf_putr (i := f) (pc := pc) (k := k) (n := n) l hs lr hL (xs_tail (xs_tail hS)) hH o e hl
      · cases e
  · exact cf_none
theorem cf_Iald {X : Nat → Prop} {h : HP} {pc : Nat} {L : List (Option AV)} {st : List AV} {k n : Nat} (hL : xlL X L) (hS : xlS X st) (hH : xlH X h) : Cf X (fun h => sIald pc L st h k n) h := by
  unfold sIald
  split
  · rename_i i a t
    have l := xf_ref (xs_head (xs_tail hS))
    by_cases ns : a = SCR
    · simp only [if_pos ns]
      intro r e hl
      dsimp only at e
      split at e
      · cases e
        exact ⟨⟨hL, xs_cons (xf_int _) (xs_tail (xs_tail hS)), hH⟩, fun a _ k => rfl⟩
      · cases e
    · simp only [if_neg ns]
      refine cf_look l (f := fun kd ln rf h => if kd = 0 ∧ 0 ≤ i ∧ i < (ln : Int) then some (.inl (pc, L, .inl (h.2 a i.toNat) :: t, h, k, n)) else none) (fun kd ln rf hs => ?_)
      exact cf_ite (cf_val (g := fun σ => .inl (σ a i.toNat) :: t) hL (xs_cons (xf_int _) (xs_tail (xs_tail hS))) hH) cf_none
  · exact cf_none
theorem cf_Iast {X : Nat → Prop} {h : HP} {pc : Nat} {L : List (Option AV)} {st : List AV} {k n : Nat} (hL : xlL X L) (hS : xlS X st) (hH : xlH X h) : Cf X (fun h => sIast pc L st h k n) h := by
  unfold sIast
  split
  · rename_i v i a t
    have l := xf_ref (xs_head (xs_tail (xs_tail hS)))
    refine cf_look l (f := fun kd ln rf h => if kd = 0 ∧ 0 ≤ i ∧ i < (ln : Int) then some (.inl (pc, L, t, (h.1, upS h.2 a i.toNat v), k, n)) else none) (fun kd ln rf hs => ?_)
    exact cf_ite (cf_upd l hL (xs_tail (xs_tail (xs_tail hS))) hH) cf_none
  · exact cf_none
theorem cf_Lald {X : Nat → Prop} {h : HP} {pc : Nat} {L : List (Option AV)} {st : List AV} {k n : Nat} (hL : xlL X L) (hS : xlS X st) (hH : xlH X h) : Cf X (fun h => sLald pc L st h k n) h := by
  unfold sLald
  split
  · rename_i i a t
    have l := xf_ref (xs_head (xs_tail hS))
    refine cf_look l (f := fun kd ln rf h => if kd = 1 ∧ 0 ≤ i ∧ i < (ln : Int) then some (.inl (pc, L, .inr (.inl (h.2 a i.toNat)) :: t, h, k, n)) else none) (fun kd ln rf hs => ?_)
    exact cf_ite (cf_val (g := fun σ => .inr (.inl (σ a i.toNat)) :: t) hL (xs_cons (xf_long _) (xs_tail (xs_tail hS))) hH) cf_none
  · exact cf_none
theorem cf_Last {X : Nat → Prop} {h : HP} {pc : Nat} {L : List (Option AV)} {st : List AV} {k n : Nat} (hL : xlL X L) (hS : xlS X st) (hH : xlH X h) : Cf X (fun h => sLast pc L st h k n) h := by
  unfold sLast
  split
  · rename_i v i a t
    have l := xf_ref (xs_head (xs_tail (xs_tail hS)))
    refine cf_look l (f := fun kd ln rf h => if kd = 1 ∧ 0 ≤ i ∧ i < (ln : Int) then some (.inl (pc, L, t, (h.1, upS h.2 a i.toNat v), k, n)) else none) (fun kd ln rf hs => ?_)
    exact cf_ite (cf_upd l hL (xs_tail (xs_tail (xs_tail hS))) hH) cf_none
  · exact cf_none
theorem cf_Zald {X : Nat → Prop} {h : HP} {pc : Nat} {L : List (Option AV)} {st : List AV} {k n : Nat} (hL : xlL X L) (hS : xlS X st) (hH : xlH X h) : Cf X (fun h => sZald pc L st h k n) h := by
  unfold sZald
  split
  · rename_i i a t
    have l := xf_ref (xs_head (xs_tail hS))
    refine cf_look l (f := fun kd ln rf h => if kd = 2 ∧ 0 ≤ i ∧ i < (ln : Int) then some (.inl (pc, L, .inl (h.2 a i.toNat) :: t, h, k, n)) else none) (fun kd ln rf hs => ?_)
    exact cf_ite (cf_val (g := fun σ => .inl (σ a i.toNat) :: t) hL (xs_cons (xf_int _) (xs_tail (xs_tail hS))) hH) cf_none
  · exact cf_none
theorem cf_Zast {X : Nat → Prop} {h : HP} {pc : Nat} {L : List (Option AV)} {st : List AV} {k n : Nat} (hL : xlL X L) (hS : xlS X st) (hH : xlH X h) : Cf X (fun h => sZast pc L st h k n) h := by
  unfold sZast
  split
  · rename_i v i a t
    have l := xf_ref (xs_head (xs_tail (xs_tail hS)))
    refine cf_look l (f := fun kd ln rf h => if kd = 2 ∧ 0 ≤ i ∧ i < (ln : Int) ∧ (v = 0 ∨ v = 1) then some (.inl (pc, L, t, (h.1, upS h.2 a i.toNat v), k, n)) else none) (fun kd ln rf hs => ?_)
    exact cf_ite (cf_upd l hL (xs_tail (xs_tail (xs_tail hS))) hH) cf_none
  · exact cf_none
theorem cf_Aald {X : Nat → Prop} {h : HP} {pc : Nat} {L : List (Option AV)} {st : List AV} {k n : Nat} (hL : xlL X L) (hS : xlS X st) (hH : xlH X h) : Cf X (fun h => sAald pc L st h k n) h := by
  unfold sAald
  split
  · rename_i i a t
    have l := xf_ref (xs_head (xs_tail hS))
    refine cf_look l (f := fun kd ln rf h => if (kd = 3 ∨ kd = 4) ∧ 0 ≤ i ∧ i < (rf.length : Int) then match rf[i.toNat]? with
          | some (some r) => some (.inl (pc, L, .inr (.inr r) :: t, h, k, n))
          | _ => none
        else none) (fun kd ln rf hs => ?_)
    refine cf_ite ?_ cf_none
    split
    · rename_i r e
      refine cf_some hL (xs_cons ?_ (xs_tail (xs_tail hS))) hH
      intro u eu
      cases eu
      exact hH a l _ hs _ _ e
    · exact cf_none
  · exact cf_none
theorem cf_Aast {X : Nat → Prop} {h : HP} {pc : Nat} {L : List (Option AV)} {st : List AV} {k n : Nat} (hL : xlL X L) (hS : xlS X st) (hH : xlH X h) : Cf X (fun h => sAast pc L st h k n) h := by
  unfold sAast
  split
  · rename_i r i a t
    have l := xf_ref (xs_head (xs_tail (xs_tail hS)))
    have lr := xf_ref (xs_head hS)
    intro o e hl
    dsimp only at e ⊢
    cases hs : h.1[a]? with
    | none => rw [hs] at e; cases e
    | some s =>
      obtain ⟨kd, ln, rf⟩ := s
      cases hr : h.1[r]? with
      | none => rw [hs, hr] at e; cases e
      | some u =>
        rw [hs, hr] at e
        dsimp only at e
        split at e
        · exact cf_putr (i := i.toNat) (pc := pc) (k := k) (n := n) l hs lr hL (xs_tail (xs_tail (xs_tail hS))) hH o e hl
        · cases e
  · exact cf_none
theorem cf_Alen {X : Nat → Prop} {h : HP} {pc : Nat} {L : List (Option AV)} {st : List AV} {k n : Nat} (hL : xlL X L) (hS : xlS X st) (hH : xlH X h) : Cf X (fun h => sAlen pc L st h k n) h := by
  unfold sAlen
  split
  · rename_i a t
    have l := xf_ref (xs_head hS)
    by_cases ns : a = SCR
    · simp only [if_pos ns]
      intro r e hl
      dsimp only at e
      cases e
      exact ⟨⟨hL, xs_cons (xf_int _) (xs_tail hS), hH⟩, fun a _ k => rfl⟩
    · simp only [if_neg ns]
      refine cf_look l (f := fun kd ln rf h => if kd < 3 then (if inR (ln : Int) = true then some (.inl (pc, L, .inl (ln : Int) :: t, h, k, n)) else none) else if kd < 5 then (if inR (rf.length : Int) = true then some (.inl (pc, L, .inl (rf.length : Int) :: t, h, k, n)) else none) else none) (fun kd ln rf hs => ?_)
      exact cf_ite (cf_ite (cf_some hL (xs_cons (xf_int _) (xs_tail hS)) hH) cf_none) (cf_ite (cf_ite (cf_some hL (xs_cons (xf_int _) (xs_tail hS)) hH) cf_none) cf_none)
  · exact cf_none
theorem cf_grow {X : Nat → Prop} {h : HP} {f : HP → Option Ctl} (H : ∀ r, f h = some r → (hpC r).1.length = h.1.length + 1) : Cf X f h := fun r e hl => by
  have := H r e
  omega
theorem cf_NewA {X : Nat → Prop} {h : HP} {m kd pc : Nat} {L : List (Option AV)} {st : List AV} {k n : Nat} (hL : xlL X L) (hS : xlS X st) (hH : xlH X h) : Cf X (fun h => sNewA m kd pc L st h k n) h := by
  refine cf_grow (fun r e => ?_)
  unfold sNewA at e
  split at e
  · split at e
    · cases e
      show (h.1 ++ [_]).length = _
      rw [List.length_append]
      rfl
    · cases e
  · cases e
theorem cf_New {X : Nat → Prop} {h : HP} {m : Nat} {q : Option Nat} {pc : Nat} {L : List (Option AV)} {st : List AV} {k n : Nat} (hL : xlL X L) (hS : xlS X st) (hH : xlH X h) : Cf X (fun h => sNew m q pc L st h k n) h := by
  refine cf_grow (fun r e => ?_)
  unfold sNew at e
  split at e
  · split at e
    · split at e
      · cases e
        show (h.1 ++ [_]).length = _
        rw [List.length_append]
        rfl
      · cases e
    · cases e
  · cases e
theorem cf_call {X : Nat → Prop} {h : HP} {j : Nat} {as : List AV} {pc : Nat} {L : List (Option AV)} {t : List AV} {k n : Nat} (ha : xlS X as) (hL : xlL X L) (hS : xlS X t) (hH : xlH X h) : Cf X (fun h => some (.inr (.inl (j, as, (pc, L, t, h, k, n))))) h := fun r e _ => by
  cases e
  exact ⟨⟨ha, hL, hS, hH⟩, fun a _ k => rfl⟩
theorem cf_out {X : Nat → Prop} {h : HP} {v : Option AV ⊕ Nat} (hv : ∀ w, v = .inl (some w) → xfA X w) (hH : xlH X h) : Cf X (fun h => some (.inr (.inr (v, h)))) h := fun r e _ => by
  cases e
  exact ⟨⟨hv, hH⟩, fun a _ k => rfl⟩
theorem cf_Call {X : Nat → Prop} {h : HP} {m kd : Nat} {q : Option Nat} {pc : Nat} {L : List (Option AV)} {st : List AV} {k n : Nat} (hL : xlL X L) (hS : xlS X st) (hH : xlH X h) : Cf X (fun h => sCall m kd q pc L st h k n) h := by
  unfold sCall
  split
  · exact cf_none
  · rename_i j
    have hA : xlS X (List.take (M_n j) st).reverse := fun v e => hS v (List.mem_of_mem_take (List.mem_reverse.mp e))
    have hT : xlS X (List.drop (M_n j) st) := fun v e => hS v (List.mem_of_mem_drop e)
    refine cf_ite ?_ (cf_ite ?_ (cf_ite ?_ ?_))
    · split
      · exact cf_ite (cf_some hL (xs_cons (xf_int _) (xs_tail (xs_tail hS))) hH) cf_none
      · exact cf_none
    · split
      · exact cf_ite (cf_some hL (xs_cons (xf_int _) (xs_tail (xs_tail hS))) hH) cf_none
      · exact cf_none
    · split
      · exact cf_ite (cf_some hL (xs_tail hS) hH) cf_none
      · exact cf_none
    · refine cf_ite ?_ cf_none
      split
      · rename_i a t e
        have l : X a := by
          rw [e] at hA
          exact xf_ref (xs_head hA)
        refine cf_look l (f := fun kd ln rf h => if ownCi (M_o j) + 10 = kd then some (.inr (.inl (j, (List.take (M_n j) st).reverse, (pc, L, List.drop (M_n j) st, h, k + M_mc j, n + M_ms j)))) else none) (fun kd ln rf hs => ?_)
        exact cf_ite (cf_call hA hL hT hH) cf_none
      · exact cf_call hA hL hT hH
      · exact cf_call hA hL hT hH
      · exact cf_none
theorem cf_Iret {X : Nat → Prop} {h : HP} {m : Nat} {st : List AV} (hS : xlS X st) (hH : xlH X h) : Cf X (fun h => sIret m st h) h := by
  unfold sIret
  split
  · exact cf_out (fun w e => by cases e; exact xf_int _) hH
  · exact cf_ite (cf_out (fun w e => by cases e; exact xf_int _) hH) cf_none
  · exact cf_none
theorem cf_Aret {X : Nat → Prop} {h : HP} {m : Nat} {st : List AV} (hS : xlS X st) (hH : xlH X h) : Cf X (fun h => sAret m st h) h := by
  unfold sAret
  split
  · exact cf_ite (cf_out (fun w e => by cases e; exact xs_head hS) hH) cf_none
  · exact cf_none
theorem cf_Vret {X : Nat → Prop} {h : HP} {m : Nat} {st : List AV} (hS : xlS X st) (hH : xlH X h) : Cf X (fun h => sVret m st h) h := by
  unfold sVret
  split
  · exact cf_out (fun w e => by cases e) hH
  · exact cf_none
theorem cf_Throw {X : Nat → Prop} {h : HP} {m X9 : Nat} {st : List AV} {k n : Nat} (hH : xlH X h) : Cf X (fun h => sThrow m X9 st h k n) h := by
  unfold sThrow
  exact cf_ite (cf_out (fun w e => by cases e) hH) cf_none
theorem cf_stepOp {X : Nat → Prop} {h : HP} (m : Nat) (i : Instr) (pc : Nat) {L : List (Option AV)} {st : List AV} (k n : Nat) (hL : xlL X L) (hS : xlS X st) (hH : xlH X h) : Cf X (fun h => stepOp m i pc L st h k n) h := by
  unfold stepOp
  split
  all_goals first
    | exact cf_none
    | exact cf_LdI hL hS hH
    | exact cf_LdA hL hS hH
    | exact cf_StI hL hS hH
    | exact cf_StA hL hS hH
    | exact cf_K hL hS hH
    | exact cf_some hL (xs_cons (xf_long _) hS) hH
    | exact cf_some hL (xs_cons xf_null hS) hH
    | exact cf_Bin hL hS hH
    | exact cf_Div hL hS hH
    | exact cf_Bit hL hS hH
    | exact cf_If hL hS hH
    | exact cf_Cmp hL hS hH
    | exact cf_Nul hL hS hH
    | exact cf_jmp hL hS hH
    | exact cf_Sw hL hS hH
    | exact cf_GetF hL hS hH
    | exact cf_PutF hL hS hH
    | exact cf_Iald hL hS hH
    | exact cf_Iast hL hS hH
    | exact cf_Lald hL hS hH
    | exact cf_Last hL hS hH
    | exact cf_Zald hL hS hH
    | exact cf_Zast hL hS hH
    | exact cf_Aald hL hS hH
    | exact cf_Aast hL hS hH
    | exact cf_Alen hL hS hH
    | exact cf_NewA hL hS hH
    | exact cf_Call hL hS hH
    | exact cf_Iret hS hH
    | exact cf_Aret hS hH
    | exact cf_Vret hS hH
    | exact cf_ite (cf_K hL hS hH) cf_none
    | exact cf_ite (cf_NewA hL hS hH) (cf_ite (cf_NewA hL hS hH) cf_none)
    | (split
       · exact cf_Throw hH
       · exact cf_New hL hS hH)
    | (split
       · exact cf_K hL hS hH
       · exact cf_none)
    | (split
       · exact cf_ite (cf_some (xl_set (xf_int _) hL) hS hH) cf_none
       · exact cf_none)
    | (split
       · exact cf_ite (cf_some hL (xs_cons (xf_int _) (xs_tail hS)) hH) cf_none
       · exact cf_none)
    | (split
       · exact cf_some hL (xs_cons (xf_long _) (xs_tail hS)) hH
       · exact cf_none)
    | (split
       · exact cf_some hL (xs_cons (xf_int _) (xs_tail (xs_tail hS))) hH
       · exact cf_none)
    | (split
       · exact cf_ite (cf_some hL (xs_cons (xs_head hS) hS) hH) cf_none
       · exact cf_none)
    | (split
       · exact cf_ite (cf_some hL (xs_cons (xs_head hS) (xs_cons (xs_head (xs_tail hS)) hS)) hH) cf_none
       · exact cf_none)
    | (split
       · exact cf_ite (cf_some hL (xs_tail hS) hH) cf_none
       · exact cf_none)
theorem cf_step {X : Nat → Prop} (m : Nat) (F : Fr) (r : Ctl) (hL : xlL X F.2.1) (hS : xlS X F.2.2.1) (hH : xlH X F.2.2.2.1) (e : step m F = some r) (hl : (hpC r).1.length = F.2.2.2.1.1.length) : xlC X r ∧ ∀ a, ¬ X a → ∀ k, (hpC r).2 a k = F.2.2.2.1.2 a k := by
  obtain ⟨pc, L, st, h, k, n⟩ := F
  unfold step at e
  dsimp only at e hl ⊢
  cases ho : op m pc with
  | none => rw [ho] at e; cases e
  | some q =>
    rw [ho] at e
    exact cf_stepOp m q.1 pc k n hL hS hH r e hl
theorem cf_thr {m pc E : Nat} {h : HP} {o : Out} (e : thrOf m pc E h = some o) : o.2 = h ∧ ∀ X v, o.1 = .inl (some v) → xfA X v := by
  unfold thrOf at e
  split at e
  · split at e
    · cases e
      exact ⟨rfl, fun X v e => by cases e⟩
    · cases e
  · split at e
    · cases e
      exact ⟨rfl, fun X v e => by cases e; exact xf_int _⟩
    · cases e
theorem cf_run {X : Nat → Prop} : ∀ (K m : Nat) (F : Fr) (o : Out), xlL X F.2.1 → xlS X F.2.2.1 → xlH X F.2.2.2.1 → run K m F = some o → o.2.1.length = F.2.2.2.1.1.length → (∀ v, o.1 = .inl (some v) → xfA X v) ∧ xlH X o.2 ∧ ∀ a, ¬ X a → ∀ k, o.2.2 a k = F.2.2.2.1.2 a k := by
  intro K
  induction K with
  | zero => intro m F o _ _ _ e; cases e
  | succ K ih =>
    intro m F o hL hS hH e hlen
    rw [run_eq] at e
    cases hs : step m F with
    | none => rw [hs] at e; cases e
    | some r =>
      rw [hs] at e
      have l1 := (ox_step (E := []) m F r hs).1
      rcases r with F' | ⟨j, as, F'⟩ | q
      · dsimp only at e
        have l1' : F.2.2.2.1.1.length ≤ F'.2.2.2.1.1.length := l1
        have l2 := (ox_run [] K m F' o e).1
        obtain ⟨⟨a1, a2, a3⟩, c⟩ := cf_step m F _ hL hS hH hs (show F'.2.2.2.1.1.length = _ by omega)
        obtain ⟨p1, p2, p3⟩ := ih m F' o a1 a2 a3 e (by omega)
        exact ⟨p1, p2, fun a ha k => (p3 a ha k).trans (c a ha k)⟩
      · dsimp only at e
        have l1' : F.2.2.2.1.1.length ≤ F'.2.2.2.1.1.length := l1
        cases hc : run K j (entryF j as F'.2.2.2.1) with
        | none => rw [hc] at e; cases e
        | some q =>
          rw [hc] at e
          have l3 : F'.2.2.2.1.1.length ≤ q.2.1.length := (ox_run [] K j _ q hc).1
          obtain ⟨w, h2⟩ := q
          have hE : ∀ as, xlS X as → xlL X (as.map some ++ List.replicate (M_L j - as.length) none) := by
            intro as a0 u hu
            rcases List.mem_append.mp hu with hu | hu
            · obtain ⟨x, hx, ex⟩ := List.mem_map.mp hu
              cases ex
              exact a0 _ hx
            · have := (List.mem_replicate.mp hu).2
              cases this
          rcases w with v | E
          · dsimp only at e l3
            have l4 : h2.1.length ≤ o.2.1.length := (ox_run [] K m _ o e).1
            obtain ⟨⟨a0, a1, a2, a3⟩, c⟩ := cf_step m F _ hL hS hH hs (show F'.2.2.2.1.1.length = _ by omega)
            dsimp only at a0 a1 a2 a3
            obtain ⟨p1, p2, p3⟩ := ih j (entryF j as F'.2.2.2.1) _ (hE as a0) (fun v e => by cases e) a3 hc (show h2.1.length = F'.2.2.2.1.1.length by omega)
            have hV : xlS X (v.toList ++ F'.2.2.1) := by
              intro u hu
              rcases List.mem_append.mp hu with hu | hu
              · cases v with
                | none => cases hu
                | some v =>
                  cases hu with
                  | head => exact p1 _ rfl
                  | tail _ h => cases h
              · exact a2 u hu
            obtain ⟨q1, q2, q3⟩ := ih m (pushO v F' h2) o a1 hV p2 e (show o.2.1.length = h2.1.length by omega)
            exact ⟨q1, q2, fun a ha k => (q3 a ha k).trans ((p3 a ha k).trans (c a ha k))⟩
          · dsimp only at e l3
            obtain ⟨t1, t2⟩ := cf_thr e
            rw [t1] at hlen
            obtain ⟨⟨a0, a1, a2, a3⟩, c⟩ := cf_step m F _ hL hS hH hs (show F'.2.2.2.1.1.length = _ by omega)
            dsimp only at a0 a1 a2 a3
            obtain ⟨p1, p2, p3⟩ := ih j (entryF j as F'.2.2.2.1) _ (hE as a0) (fun v e => by cases e) a3 hc (show h2.1.length = F'.2.2.2.1.1.length by omega)
            exact ⟨t2 X, by rw [t1]; exact p2, fun a ha k => by rw [t1]; exact (p3 a ha k).trans (c a ha k)⟩
      · dsimp only at e
        cases e
        obtain ⟨⟨a1, a2⟩, c⟩ := cf_step m F _ hL hS hH hs hlen
        exact ⟨a1, a2, c⟩
/-- the reference's cells keep among themselves: its calls leave the class's as they are -/
def refX (a : Nat) : Prop := 682 ≤ a ∧ a < 727
def shRef : Bool := (List.range 45).all (fun i => match SH0[682 + i]? with
  | some s => s.2.2.all (fun o => match o with
    | some (some r) => decide (682 ≤ r ∧ r < 727)
    | _ => true)
  | none => true)
set_option maxRecDepth 100000 in
theorem shRef_ok : shRef = true := by decide +kernel
theorem SH0_ref (σ : Nat → Nat → Int) : xlH refX (SH0, σ) := by
  intro a l s hs i r hr
  obtain ⟨j, rfl⟩ : ∃ j, a = 682 + j := ⟨a - 682, by have := l.1; omega⟩
  have h1 := List.all_eq_true.mp shRef_ok j (List.mem_range.mpr (by have := l.2; omega))
  have hs' : SH0[682 + j]? = some s := hs
  rw [hs'] at h1
  show 682 ≤ r ∧ r < 727
  exact of_decide_eq_true (List.all_eq_true.mp h1 _ (List.mem_of_getElem? hr))
theorem Dd_ref {j : Nat} {as : List AV} {σ σ' : Sg} {v : Option AV ⊕ Nat} (hA : xlS refX as) (H : Dd j as σ (v, σ')) {a : Nat} (ha : ¬ refX a) (k : Nat) : σ' a k = σ a k := by
  obtain ⟨K, h⟩ := H
  refine (cf_run K j _ _ ?_ (fun v e => by cases e) (SH0_ref σ) h rfl).2.2 a ha k
  intro u hu
  rcases List.mem_append.mp hu with hu | hu
  · obtain ⟨x, hx, ex⟩ := List.mem_map.mp hu
    cases ex
    exact hA _ hx
  · have := (List.mem_replicate.mp hu).2
    cases this
end
