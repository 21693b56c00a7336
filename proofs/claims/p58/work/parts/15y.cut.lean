/-! The interpreter on the first cells alone: a run whose references stay among the first N cells, and that makes nothing, needs no cell behind them. -/
noncomputable section
def rfA (N : Nat) (v : AV) : Prop := ∀ a, v = .inr (.inr (some a)) → a < N
def clS (N : Nat) (st : List AV) : Prop := ∀ v, v ∈ st → rfA N v
def clL (N : Nat) (L : List (Option AV)) : Prop := ∀ v, some v ∈ L → rfA N v
def clH (N : Nat) (h : HP) : Prop := ∀ a, a < N → ∀ (s : SH), h.1[a]? = some s → ∀ (i r : Nat), s.2.2[i]? = some (some (some r)) → r < N
def mixS (N : Nat) (τ σ : Nat → Nat → Int) : Nat → Nat → Int := fun c k => if c < N then σ c k else τ c k
theorem mx_in {N : Nat} {τ σ : Nat → Nat → Int} {a : Nat} (l : a < N) (k : Nat) : mixS N τ σ a k = σ a k := if_pos l
theorem mx_up {N : Nat} {τ σ : Nat → Nat → Int} {a : Nat} (l : a < N) (k : Nat) (v : Int) : upS (mixS N τ σ) a k v = mixS N τ (upS σ a k v) := by
  funext c i
  unfold mixS upS
  by_cases h : c < N
  · dsimp only
    rw [if_pos h, if_pos h]
  · dsimp only
    rw [if_neg h, if_neg h, if_neg (by omega)]
def cuH (N : Nat) (τ : Nat → Nat → Int) (h : HP) : HP := (h.1.take N, mixS N τ h.2)
def cuF (N : Nat) (τ : Nat → Nat → Int) (F : Fr) : Fr := (F.1, F.2.1, F.2.2.1, cuH N τ F.2.2.2.1, F.2.2.2.2.1, F.2.2.2.2.2)
def cuC (N : Nat) (τ : Nat → Nat → Int) (r : Ctl) : Ctl := match r with
  | .inl F => .inl (cuF N τ F)
  | .inr (.inl q) => .inr (.inl (q.1, q.2.1, cuF N τ q.2.2))
  | .inr (.inr o) => .inr (.inr (o.1, cuH N τ o.2))
def clC (N : Nat) (r : Ctl) : Prop := match r with
  | .inl F => clL N F.2.1 ∧ clS N F.2.2.1 ∧ clH N F.2.2.2.1
  | .inr (.inl q) => clS N q.2.1 ∧ clL N q.2.2.2.1 ∧ clS N q.2.2.2.2.1 ∧ clH N q.2.2.2.2.2.1
  | .inr (.inr o) => (∀ v, o.1 = .inl (some v) → rfA N v) ∧ clH N o.2
def Cu (N : Nat) (τ : Nat → Nat → Int) (f : HP → Option Ctl) (h : HP) : Prop := ∀ r, f h = some r → (hpC r).1.length = h.1.length → clC N r ∧ f (cuH N τ h) = some (cuC N τ r) ∧ (hpC r).1.drop N = h.1.drop N
theorem rf_int {N : Nat} (x : Int) : rfA N (.inl x) := fun a e => by cases e
theorem rf_long {N : Nat} (x : Int) : rfA N (.inr (.inl x)) := fun a e => by cases e
theorem rf_null {N : Nat} : rfA N (.inr (.inr none)) := fun a e => by cases e
theorem rf_ref {N a : Nat} (h : rfA N (.inr (.inr (some a)))) : a < N := h a rfl
theorem rf_of {N a : Nat} (h : a < N) : rfA N (.inr (.inr (some a))) := fun b e => by cases e; exact h
theorem cs_cons {N : Nat} {v : AV} {st : List AV} (h : rfA N v) (h' : clS N st) : clS N (v :: st) := fun w e => by
  cases e with
  | head => exact h
  | tail _ e => exact h' w e
theorem cs_head {N : Nat} {v : AV} {st : List AV} (h : clS N (v :: st)) : rfA N v := h v (List.mem_cons_self ..)
theorem cs_tail {N : Nat} {v : AV} {st : List AV} (h : clS N (v :: st)) : clS N st := fun w e => h w (List.mem_cons_of_mem _ e)
theorem cl_set {N j : Nat} {v : AV} {L : List (Option AV)} (h : rfA N v) (h' : clL N L) : clL N (L.set j (some v)) := fun w e => by
  rcases List.mem_or_eq_of_mem_set e with e | e
  · exact h' w e
  · cases e; exact h
theorem cl_get {N j : Nat} {v : AV} {L : List (Option AV)} (h' : clL N L) (e : L[j]? = some (some v)) : rfA N v := h' v (List.mem_of_getElem? e)
theorem cu_get {N : Nat} {τ : Nat → Nat → Int} {h : HP} {a : Nat} (l : a < N) : (cuH N τ h).1[a]? = h.1[a]? := by
  show (h.1.take N)[a]? = _
  rw [List.getElem?_take_of_lt l]
theorem cu_set {N : Nat} {τ : Nat → Nat → Int} {h : HP} {a : Nat} {t : SH} : (cuH N τ h).1.set a t = (h.1.set a t).take N := by
  show (h.1.take N).set a t = _
  rw [List.take_set]
theorem ch_set {N : Nat} {h : HP} {a : Nat} {kd ln : Nat} {rf : List (Option (Option Nat))} {i r : Nat} {σ : Nat → Nat → Int} (hH : clH N h) (l : a < N) (e : h.1[a]? = some (kd, ln, rf)) (hr : r < N) : clH N (h.1.set a (kd, ln, rf.set i (some (some r))), σ) := by
  intro b lb s hs j u hu
  dsimp only at hs
  by_cases hab : a = b
  · subst hab
    obtain ⟨la, _⟩ := List.getElem?_eq_some_iff.mp e
    rw [List.getElem?_set_self la] at hs
    cases hs
    dsimp only at hu
    by_cases hij : i = j
    · subst hij
      rw [List.getElem?_set] at hu
      split at hu
      · split at hu
        · cases hu; exact hr
        · cases hu
      · exact absurd rfl ‹¬ i = i›
    · rw [List.getElem?_set_ne hij] at hu
      exact hH a l _ e j u hu
  · rw [List.getElem?_set_ne hab] at hs
    exact hH b lb s hs j u hu
theorem cu_none {N : Nat} {τ : Nat → Nat → Int} {h : HP} : Cu N τ (fun _ => none) h := fun r e => by cases e
theorem cu_some {N : Nat} {τ : Nat → Nat → Int} {h : HP} {pc : Nat} {L : List (Option AV)} {st : List AV} {k n : Nat} (hL : clL N L) (hS : clS N st) (hH : clH N h) : Cu N τ (fun h => some (.inl (pc, L, st, h, k, n))) h := fun r e _ => by
  cases e
  exact ⟨⟨hL, hS, hH⟩, rfl, rfl⟩
theorem cu_val {N : Nat} {τ : Nat → Nat → Int} {h : HP} {pc : Nat} {L : List (Option AV)} {k n : Nat} {g : (Nat → Nat → Int) → List AV} (hg : g (mixS N τ h.2) = g h.2) (hL : clL N L) (hS : clS N (g h.2)) (hH : clH N h) : Cu N τ (fun h => some (.inl (pc, L, g h.2, h, k, n))) h := fun r e _ => by
  cases e
  exact ⟨⟨hL, hS, hH⟩, by show some (Sum.inl (pc, L, g (mixS N τ h.2), _, k, n)) = _; rw [hg]; rfl, rfl⟩
theorem cu_upd {N : Nat} {τ : Nat → Nat → Int} {h : HP} {pc : Nat} {L : List (Option AV)} {st : List AV} {k n : Nat} {g : (Nat → Nat → Int) → Nat → Nat → Int} (hg : g (mixS N τ h.2) = mixS N τ (g h.2)) (hL : clL N L) (hS : clS N st) (hH : clH N h) : Cu N τ (fun h => some (.inl (pc, L, st, (h.1, g h.2), k, n))) h := fun r e _ => by
  cases e
  exact ⟨⟨hL, hS, hH⟩, by show some (Sum.inl (pc, L, st, (_, g (mixS N τ h.2)), k, n)) = _; rw [hg]; rfl, rfl⟩
theorem cu_ite {N : Nat} {τ : Nat → Nat → Int} {h : HP} {c : Prop} [Decidable c] {f g : HP → Option Ctl} (hf : Cu N τ f h) (hg : Cu N τ g h) : Cu N τ (fun h => if c then f h else g h) h := by
  intro r e
  by_cases hc : c
  · dsimp only at e ⊢
    rw [if_pos hc] at e
    intro hl
    obtain ⟨p, q, s⟩ := hf r e hl
    exact ⟨p, by rw [if_pos hc]; exact q, s⟩
  · dsimp only at e ⊢
    rw [if_neg hc] at e
    intro hl
    obtain ⟨p, q, s⟩ := hg r e hl
    exact ⟨p, by rw [if_neg hc]; exact q, s⟩
theorem cu_jmp {N : Nat} {τ : Nat → Nat → Int} {h : HP} {pc : Nat} {off : Int} {L : List (Option AV)} {st : List AV} {k n : Nat} (hL : clL N L) (hS : clS N st) (hH : clH N h) : Cu N τ (fun h => jmp pc off L st h k n) h := by
  unfold jmp
  exact cu_ite (cu_some hL hS hH) cu_none
theorem cu_look {N : Nat} {τ : Nat → Nat → Int} {h : HP} {a : Nat} (l : a < N) {f : Nat → Nat → List (Option (Option Nat)) → HP → Option Ctl} (H : ∀ kd ln rf, h.1[a]? = some (kd, ln, rf) → Cu N τ (f kd ln rf) h) : Cu N τ (fun h => match h.1[a]? with
    | some (kd, ln, rf) => f kd ln rf h
    | none => none) h := by
  intro r e hl
  dsimp only at e ⊢
  cases hs : h.1[a]? with
  | none => rw [hs] at e; cases e
  | some s =>
    obtain ⟨kd, ln, rf⟩ := s
    rw [hs] at e
    obtain ⟨p, q, t⟩ := H kd ln rf hs r e hl
    refine ⟨p, ?_, t⟩
    rw [cu_get l, hs]
    exact q
theorem cu_putr {N : Nat} {τ : Nat → Nat → Int} {h : HP} {a : Nat} (l : a < N) {kd ln : Nat} {rf : List (Option (Option Nat))} {i r : Nat} (e : h.1[a]? = some (kd, ln, rf)) (hr : r < N) {pc : Nat} {L : List (Option AV)} {st : List AV} {k n : Nat} (hL : clL N L) (hS : clS N st) (hH : clH N h) : Cu N τ (fun h => some (.inl (pc, L, st, (h.1.set a (kd, ln, rf.set i (some (some r))), h.2), k, n))) h := fun o er _ => by
  cases er
  refine ⟨⟨hL, hS, ch_set hH l e hr⟩, ?_, ?_⟩
  · dsimp only
    rw [cu_set]
    rfl
  · show (h.1.set a _).drop N = _
    rw [List.drop_set_of_lt l]
theorem cu_LdI {N : Nat} {τ : Nat → Nat → Int} {h : HP} {j pc : Nat} {L : List (Option AV)} {st : List AV} {k n : Nat} (hL : clL N L) (hS : clS N st) (hH : clH N h) : Cu N τ (fun h => sLdI j pc L st h k n) h := by
  unfold sLdI
  split
  · exact cu_some hL (cs_cons (rf_int _) hS) hH
  · exact cu_none
theorem cu_LdA {N : Nat} {τ : Nat → Nat → Int} {h : HP} {j pc : Nat} {L : List (Option AV)} {st : List AV} {k n : Nat} (hL : clL N L) (hS : clS N st) (hH : clH N h) : Cu N τ (fun h => sLdA j pc L st h k n) h := by
  unfold sLdA
  split
  · rename_i r e
    exact cu_some hL (cs_cons (cl_get hL e) hS) hH
  · exact cu_none
theorem cu_StI {N : Nat} {τ : Nat → Nat → Int} {h : HP} {j pc : Nat} {L : List (Option AV)} {st : List AV} {k n : Nat} (hL : clL N L) (hS : clS N st) (hH : clH N h) : Cu N τ (fun h => sStI j pc L st h k n) h := by
  unfold sStI
  split
  · exact cu_ite (cu_some (cl_set (cs_head hS) hL) (cs_tail hS) hH) cu_none
  · exact cu_none
theorem cu_StA {N : Nat} {τ : Nat → Nat → Int} {h : HP} {j pc : Nat} {L : List (Option AV)} {st : List AV} {k n : Nat} (hL : clL N L) (hS : clS N st) (hH : clH N h) : Cu N τ (fun h => sStA j pc L st h k n) h := by
  unfold sStA
  split
  · exact cu_ite (cu_some (cl_set (cs_head hS) hL) (cs_tail hS) hH) cu_none
  · exact cu_none
theorem cu_K {N : Nat} {τ : Nat → Nat → Int} {h : HP} {v : Int} {pc : Nat} {L : List (Option AV)} {st : List AV} {k n : Nat} (hL : clL N L) (hS : clS N st) (hH : clH N h) : Cu N τ (fun h => sK v pc L st h k n) h := by
  unfold sK
  exact cu_ite (cu_some hL (cs_cons (rf_int _) hS) hH) cu_none
theorem cu_Bin {N : Nat} {τ : Nat → Nat → Int} {h : HP} {f : Int → Int → Int} {pc : Nat} {L : List (Option AV)} {st : List AV} {k n : Nat} (hL : clL N L) (hS : clS N st) (hH : clH N h) : Cu N τ (fun h => sBin f pc L st h k n) h := by
  unfold sBin
  split
  · exact cu_ite (cu_some hL (cs_cons (rf_int _) (cs_tail (cs_tail hS))) hH) cu_none
  · exact cu_none
theorem cu_Div {N : Nat} {τ : Nat → Nat → Int} {h : HP} {f : Int → Int → Int} {pc : Nat} {L : List (Option AV)} {st : List AV} {k n : Nat} (hL : clL N L) (hS : clS N st) (hH : clH N h) : Cu N τ (fun h => sDiv f pc L st h k n) h := by
  unfold sDiv
  split
  · exact cu_ite (cu_some hL (cs_cons (rf_int _) (cs_tail (cs_tail hS))) hH) cu_none
  · exact cu_none
theorem cu_Bit {N : Nat} {τ : Nat → Nat → Int} {h : HP} {f : Int32 → Int32 → Int32} {pc : Nat} {L : List (Option AV)} {st : List AV} {k n : Nat} (hL : clL N L) (hS : clS N st) (hH : clH N h) : Cu N τ (fun h => sBit f pc L st h k n) h := by
  unfold sBit
  split
  · exact cu_some hL (cs_cons (rf_int _) (cs_tail (cs_tail hS))) hH
  · exact cu_none
theorem cu_If {N : Nat} {τ : Nat → Nat → Int} {h : HP} {c : Jvm.ClassFile.Cond} {off : Int} {pc : Nat} {L : List (Option AV)} {st : List AV} {k n : Nat} (hL : clL N L) (hS : clS N st) (hH : clH N h) : Cu N τ (fun h => sIf c off pc L st h k n) h := by
  unfold sIf
  split
  · exact cu_ite (cu_ite (cu_some hL (cs_tail hS) hH) (cu_some hL (cs_tail hS) hH)) cu_none
  · exact cu_none
theorem cu_Cmp {N : Nat} {τ : Nat → Nat → Int} {h : HP} {c : Jvm.ClassFile.Cond} {off : Int} {pc : Nat} {L : List (Option AV)} {st : List AV} {k n : Nat} (hL : clL N L) (hS : clS N st) (hH : clH N h) : Cu N τ (fun h => sCmp c off pc L st h k n) h := by
  unfold sCmp
  split
  · exact cu_ite (cu_ite (cu_some hL (cs_tail (cs_tail hS)) hH) (cu_some hL (cs_tail (cs_tail hS)) hH)) cu_none
  · exact cu_none
theorem cu_Nul {N : Nat} {τ : Nat → Nat → Int} {h : HP} {b : Bool} {off : Int} {pc : Nat} {L : List (Option AV)} {st : List AV} {k n : Nat} (hL : clL N L) (hS : clS N st) (hH : clH N h) : Cu N τ (fun h => sNul b off pc L st h k n) h := by
  unfold sNul
  split
  · exact cu_ite (cu_jmp hL (cs_tail hS) hH) (cu_some hL (cs_tail hS) hH)
  · exact cu_none
theorem cu_Sw {N : Nat} {τ : Nat → Nat → Int} {h : HP} {d lo hi : Int} {offs : Array Int} {pc : Nat} {L : List (Option AV)} {st : List AV} {k n : Nat} (hL : clL N L) (hS : clS N st) (hH : clH N h) : Cu N τ (fun h => sSw d lo hi offs pc L st h k n) h := by
  unfold sSw
  split
  · refine cu_ite (cu_jmp hL (cs_tail hS) hH) ?_
    split
    · exact cu_jmp hL (cs_tail hS) hH
    · exact cu_none
  · exact cu_none
theorem cu_GetF {N : Nat} {τ : Nat → Nat → Int} {h : HP} {q : Option (Nat × Nat × Bool × Bool)} {pc : Nat} {L : List (Option AV)} {st : List AV} {k n : Nat} (hL : clL N L) (hS : clS N st) (hH : clH N h) : Cu N τ (fun h => sGetF q pc L st h k n) h := by
  unfold sGetF
  split
  · rename_i ci f b a t
    have l := rf_ref (cs_head hS)
    refine cu_look l (f := fun kd ln rf h => if kd = ci + 10 then match rf[f]? with
          | some none => some (.inl (pc, L, .inl (h.2 a f) :: t, h, k, n))
          | some (some r) => some (.inl (pc, L, .inr (.inr r) :: t, h, k, n))
          | none => none
        else none) (fun kd ln rf hs => ?_)
    refine cu_ite ?_ cu_none
    split
    · exact cu_val (g := fun σ => .inl (σ a f) :: t) (by rw [mx_in l]) hL (cs_cons (rf_int _) (cs_tail hS)) hH
    · rename_i r e
      refine cu_some hL (cs_cons ?_ (cs_tail hS)) hH
      intro u eu
      cases eu
      exact hH a l _ hs _ _ e
    · exact cu_none
  · exact cu_none
theorem cu_PutF {N : Nat} {τ : Nat → Nat → Int} {h : HP} {m : Nat} {q : Option (Nat × Nat × Bool × Bool)} {pc : Nat} {L : List (Option AV)} {st : List AV} {k n : Nat} (hL : clL N L) (hS : clS N st) (hH : clH N h) : Cu N τ (fun h => sPutF m q pc L st h k n) h := by
  unfold sPutF
  split
  · rename_i ci f fin isR v a t
    have l := rf_ref (cs_head (cs_tail hS))
    refine cu_look l (f := fun kd ln rf h => if kd = ci + 10 ∧ fin = false ∧ isR = false ∧ rf[f]? = some none then some (.inl (pc, L, t, (h.1, upS h.2 a f v), k, n)) else none) (fun kd ln rf hs => ?_)
    exact cu_ite (cu_upd (g := fun σ => upS σ a f v) (mx_up l _ _) hL (cs_tail (cs_tail hS)) hH) cu_none
  · rename_i ci f fin isR r a t
    have l := rf_ref (cs_head (cs_tail hS))
    have lr := rf_ref (cs_head hS)
    intro o e hl
    dsimp only at e ⊢
    cases hs : h.1[a]? with
    | none => rw [hs] at e; cases e
    | some s =>
      obtain ⟨kd, ln, rf⟩ := s
      rw [hs] at e
      dsimp only at e
      split at e
      · rename_i hc
        obtain ⟨p, q, u⟩ := cu_putr (i := f) (pc := pc) (k := k) (n := n) l hs lr hL (cs_tail (cs_tail hS)) hH o e hl
        refine ⟨p, ?_, u⟩
        rw [cu_get l, hs]
        dsimp only
        rw [if_pos ⟨hc.1, hc.2.1, hc.2.2.1, by
          show r < (h.1.take N).length
          rw [List.length_take]
          exact Nat.lt_min.mpr ⟨lr, hc.2.2.2⟩⟩]
        exact q
      · cases e
  · exact cu_none
theorem cu_Iald {N : Nat} {τ : Nat → Nat → Int} {h : HP} {pc : Nat} (hN : N ≤ SCR) {L : List (Option AV)} {st : List AV} {k n : Nat} (hL : clL N L) (hS : clS N st) (hH : clH N h) : Cu N τ (fun h => sIald pc L st h k n) h := by
  unfold sIald
  split
  · rename_i i a t
    have l := rf_ref (cs_head (cs_tail hS))
    have ns : ¬ a = SCR := by omega
    simp only [if_neg ns]
    refine cu_look l (f := fun kd ln rf h => if kd = 0 ∧ 0 ≤ i ∧ i < (ln : Int) then some (.inl (pc, L, .inl (h.2 a i.toNat) :: t, h, k, n)) else none) (fun kd ln rf hs => ?_)
    exact cu_ite (cu_val (g := fun σ => .inl (σ a i.toNat) :: t) (by rw [mx_in l]) hL (cs_cons (rf_int _) (cs_tail (cs_tail hS))) hH) cu_none
  · exact cu_none
theorem cu_Iast {N : Nat} {τ : Nat → Nat → Int} {h : HP} {pc : Nat} {L : List (Option AV)} {st : List AV} {k n : Nat} (hL : clL N L) (hS : clS N st) (hH : clH N h) : Cu N τ (fun h => sIast pc L st h k n) h := by
  unfold sIast
  split
  · rename_i v i a t
    have l := rf_ref (cs_head (cs_tail (cs_tail hS)))
    refine cu_look l (f := fun kd ln rf h => if kd = 0 ∧ 0 ≤ i ∧ i < (ln : Int) then some (.inl (pc, L, t, (h.1, upS h.2 a i.toNat v), k, n)) else none) (fun kd ln rf hs => ?_)
    exact cu_ite (cu_upd (g := fun σ => upS σ a i.toNat v) (mx_up l _ _) hL (cs_tail (cs_tail (cs_tail hS))) hH) cu_none
  · exact cu_none
theorem cu_Lald {N : Nat} {τ : Nat → Nat → Int} {h : HP} {pc : Nat} {L : List (Option AV)} {st : List AV} {k n : Nat} (hL : clL N L) (hS : clS N st) (hH : clH N h) : Cu N τ (fun h => sLald pc L st h k n) h := by
  unfold sLald
  split
  · rename_i i a t
    have l := rf_ref (cs_head (cs_tail hS))
    refine cu_look l (f := fun kd ln rf h => if kd = 1 ∧ 0 ≤ i ∧ i < (ln : Int) then some (.inl (pc, L, .inr (.inl (h.2 a i.toNat)) :: t, h, k, n)) else none) (fun kd ln rf hs => ?_)
    exact cu_ite (cu_val (g := fun σ => .inr (.inl (σ a i.toNat)) :: t) (by rw [mx_in l]) hL (cs_cons (rf_long _) (cs_tail (cs_tail hS))) hH) cu_none
  · exact cu_none
theorem cu_Last {N : Nat} {τ : Nat → Nat → Int} {h : HP} {pc : Nat} {L : List (Option AV)} {st : List AV} {k n : Nat} (hL : clL N L) (hS : clS N st) (hH : clH N h) : Cu N τ (fun h => sLast pc L st h k n) h := by
  unfold sLast
  split
  · rename_i v i a t
    have l := rf_ref (cs_head (cs_tail (cs_tail hS)))
    refine cu_look l (f := fun kd ln rf h => if kd = 1 ∧ 0 ≤ i ∧ i < (ln : Int) then some (.inl (pc, L, t, (h.1, upS h.2 a i.toNat v), k, n)) else none) (fun kd ln rf hs => ?_)
    exact cu_ite (cu_upd (g := fun σ => upS σ a i.toNat v) (mx_up l _ _) hL (cs_tail (cs_tail (cs_tail hS))) hH) cu_none
  · exact cu_none
theorem cu_Zald {N : Nat} {τ : Nat → Nat → Int} {h : HP} {pc : Nat} {L : List (Option AV)} {st : List AV} {k n : Nat} (hL : clL N L) (hS : clS N st) (hH : clH N h) : Cu N τ (fun h => sZald pc L st h k n) h := by
  unfold sZald
  split
  · rename_i i a t
    have l := rf_ref (cs_head (cs_tail hS))
    refine cu_look l (f := fun kd ln rf h => if kd = 2 ∧ 0 ≤ i ∧ i < (ln : Int) then some (.inl (pc, L, .inl (h.2 a i.toNat) :: t, h, k, n)) else none) (fun kd ln rf hs => ?_)
    exact cu_ite (cu_val (g := fun σ => .inl (σ a i.toNat) :: t) (by rw [mx_in l]) hL (cs_cons (rf_int _) (cs_tail (cs_tail hS))) hH) cu_none
  · exact cu_none
theorem cu_Zast {N : Nat} {τ : Nat → Nat → Int} {h : HP} {pc : Nat} {L : List (Option AV)} {st : List AV} {k n : Nat} (hL : clL N L) (hS : clS N st) (hH : clH N h) : Cu N τ (fun h => sZast pc L st h k n) h := by
  unfold sZast
  split
  · rename_i v i a t
    have l := rf_ref (cs_head (cs_tail (cs_tail hS)))
    refine cu_look l (f := fun kd ln rf h => if kd = 2 ∧ 0 ≤ i ∧ i < (ln : Int) ∧ (v = 0 ∨ v = 1) then some (.inl (pc, L, t, (h.1, upS h.2 a i.toNat v), k, n)) else none) (fun kd ln rf hs => ?_)
    exact cu_ite (cu_upd (g := fun σ => upS σ a i.toNat v) (mx_up l _ _) hL (cs_tail (cs_tail (cs_tail hS))) hH) cu_none
  · exact cu_none
theorem cu_Aald {N : Nat} {τ : Nat → Nat → Int} {h : HP} {pc : Nat} {L : List (Option AV)} {st : List AV} {k n : Nat} (hL : clL N L) (hS : clS N st) (hH : clH N h) : Cu N τ (fun h => sAald pc L st h k n) h := by
  unfold sAald
  split
  · rename_i i a t
    have l := rf_ref (cs_head (cs_tail hS))
    refine cu_look l (f := fun kd ln rf h => if (kd = 3 ∨ kd = 4) ∧ 0 ≤ i ∧ i < (rf.length : Int) then match rf[i.toNat]? with
          | some (some r) => some (.inl (pc, L, .inr (.inr r) :: t, h, k, n))
          | _ => none
        else none) (fun kd ln rf hs => ?_)
    refine cu_ite ?_ cu_none
    split
    · rename_i r e
      refine cu_some hL (cs_cons ?_ (cs_tail (cs_tail hS))) hH
      intro u eu
      cases eu
      exact hH a l _ hs _ _ e
    · exact cu_none
  · exact cu_none
theorem cu_Aast {N : Nat} {τ : Nat → Nat → Int} {h : HP} {pc : Nat} {L : List (Option AV)} {st : List AV} {k n : Nat} (hL : clL N L) (hS : clS N st) (hH : clH N h) : Cu N τ (fun h => sAast pc L st h k n) h := by
  unfold sAast
  split
  · rename_i r i a t
    have l := rf_ref (cs_head (cs_tail (cs_tail hS)))
    have lr := rf_ref (cs_head hS)
    intro o e hl
    dsimp only at e ⊢
    cases hs : h.1[a]? with
    | none => rw [hs] at e; cases e
    | some s =>
      obtain ⟨kd, ln, rf⟩ := s
      cases hr : h.1[r]? with
      | none => rw [hs, hr] at e; cases e
      | some u =>
        rw [hs, hr] at e
        dsimp only at e
        split at e
        · rename_i hc
          obtain ⟨p, q, w⟩ := cu_putr (i := i.toNat) (pc := pc) (k := k) (n := n) l hs lr hL (cs_tail (cs_tail (cs_tail hS))) hH o e hl
          refine ⟨p, ?_, w⟩
          rw [cu_get l, hs, cu_get lr, hr]
          dsimp only
          rw [if_pos hc]
          exact q
        · cases e
  · exact cu_none
theorem cu_Alen {N : Nat} {τ : Nat → Nat → Int} {h : HP} {pc : Nat} (hN : N ≤ SCR) {L : List (Option AV)} {st : List AV} {k n : Nat} (hL : clL N L) (hS : clS N st) (hH : clH N h) : Cu N τ (fun h => sAlen pc L st h k n) h := by
  unfold sAlen
  split
  · rename_i a t
    have l := rf_ref (cs_head hS)
    have ns : ¬ a = SCR := by omega
    simp only [if_neg ns]
    refine cu_look l (f := fun kd ln rf h => if kd < 3 then (if inR (ln : Int) = true then some (.inl (pc, L, .inl (ln : Int) :: t, h, k, n)) else none) else if kd < 5 then (if inR (rf.length : Int) = true then some (.inl (pc, L, .inl (rf.length : Int) :: t, h, k, n)) else none) else none) (fun kd ln rf hs => ?_)
    exact cu_ite (cu_ite (cu_some hL (cs_cons (rf_int _) (cs_tail hS)) hH) cu_none) (cu_ite (cu_ite (cu_some hL (cs_cons (rf_int _) (cs_tail hS)) hH) cu_none) cu_none)
  · exact cu_none
theorem cu_grow {N : Nat} {τ : Nat → Nat → Int} {h : HP} {f : HP → Option Ctl} (H : ∀ r, f h = some r → (hpC r).1.length = h.1.length + 1) : Cu N τ f h := fun r e hl => by
  have := H r e
  omega
theorem cu_NewA {N : Nat} {τ : Nat → Nat → Int} {h : HP} {m kd pc : Nat} {L : List (Option AV)} {st : List AV} {k n : Nat} (hL : clL N L) (hS : clS N st) (hH : clH N h) : Cu N τ (fun h => sNewA m kd pc L st h k n) h := by
  refine cu_grow (fun r e => ?_)
  unfold sNewA at e
  split at e
  · split at e
    · cases e
      show (h.1 ++ [_]).length = _
      rw [List.length_append]
      rfl
    · cases e
  · cases e
theorem cu_New {N : Nat} {τ : Nat → Nat → Int} {h : HP} {m : Nat} {q : Option Nat} {pc : Nat} {L : List (Option AV)} {st : List AV} {k n : Nat} (hL : clL N L) (hS : clS N st) (hH : clH N h) : Cu N τ (fun h => sNew m q pc L st h k n) h := by
  refine cu_grow (fun r e => ?_)
  unfold sNew at e
  split at e
  · split at e
    · split at e
      · cases e
        show (h.1 ++ [_]).length = _
        rw [List.length_append]
        rfl
      · cases e
    · cases e
  · cases e
theorem cu_call {N : Nat} {τ : Nat → Nat → Int} {h : HP} {j : Nat} {as : List AV} {pc : Nat} {L : List (Option AV)} {t : List AV} {k n : Nat} (ha : clS N as) (hL : clL N L) (hS : clS N t) (hH : clH N h) : Cu N τ (fun h => some (.inr (.inl (j, as, (pc, L, t, h, k, n))))) h := fun r e _ => by
  cases e
  exact ⟨⟨ha, hL, hS, hH⟩, rfl, rfl⟩
theorem cu_out {N : Nat} {τ : Nat → Nat → Int} {h : HP} {v : Option AV ⊕ Nat} (hv : ∀ w, v = .inl (some w) → rfA N w) (hH : clH N h) : Cu N τ (fun h => some (.inr (.inr (v, h)))) h := fun r e _ => by
  cases e
  exact ⟨⟨hv, hH⟩, rfl, rfl⟩
theorem cu_Call {N : Nat} {τ : Nat → Nat → Int} {h : HP} {m kd : Nat} {q : Option Nat} {pc : Nat} {L : List (Option AV)} {st : List AV} {k n : Nat} (hL : clL N L) (hS : clS N st) (hH : clH N h) : Cu N τ (fun h => sCall m kd q pc L st h k n) h := by
  unfold sCall
  split
  · exact cu_none
  · rename_i j
    have hA : clS N (List.take (M_n j) st).reverse := fun v e => hS v (List.mem_of_mem_take (List.mem_reverse.mp e))
    have hT : clS N (List.drop (M_n j) st) := fun v e => hS v (List.mem_of_mem_drop e)
    refine cu_ite ?_ (cu_ite ?_ (cu_ite ?_ ?_))
    · split
      · exact cu_ite (cu_some hL (cs_cons (rf_int _) (cs_tail (cs_tail hS))) hH) cu_none
      · exact cu_none
    · split
      · exact cu_ite (cu_some hL (cs_cons (rf_int _) (cs_tail (cs_tail hS))) hH) cu_none
      · exact cu_none
    · split
      · exact cu_ite (cu_some hL (cs_tail hS) hH) cu_none
      · exact cu_none
    · refine cu_ite ?_ cu_none
      split
      · rename_i a t e
        have l : a < N := by
          rw [e] at hA
          exact rf_ref (cs_head hA)
        refine cu_look l (f := fun kd ln rf h => if ownCi (M_o j) + 10 = kd then some (.inr (.inl (j, (List.take (M_n j) st).reverse, (pc, L, List.drop (M_n j) st, h, k + M_mc j, n + M_ms j)))) else none) (fun kd ln rf hs => ?_)
        exact cu_ite (cu_call hA hL hT hH) cu_none
      · exact cu_call hA hL hT hH
      · exact cu_call hA hL hT hH
      · exact cu_none
theorem cu_Iret {N : Nat} {τ : Nat → Nat → Int} {h : HP} {m : Nat} {st : List AV} (hS : clS N st) (hH : clH N h) : Cu N τ (fun h => sIret m st h) h := by
  unfold sIret
  split
  · exact cu_out (fun w e => by cases e; exact rf_int _) hH
  · exact cu_ite (cu_out (fun w e => by cases e; exact rf_int _) hH) cu_none
  · exact cu_none
theorem cu_Aret {N : Nat} {τ : Nat → Nat → Int} {h : HP} {m : Nat} {st : List AV} (hS : clS N st) (hH : clH N h) : Cu N τ (fun h => sAret m st h) h := by
  unfold sAret
  split
  · exact cu_ite (cu_out (fun w e => by cases e; exact cs_head hS) hH) cu_none
  · exact cu_none
theorem cu_Vret {N : Nat} {τ : Nat → Nat → Int} {h : HP} {m : Nat} {st : List AV} (hS : clS N st) (hH : clH N h) : Cu N τ (fun h => sVret m st h) h := by
  unfold sVret
  split
  · exact cu_out (fun w e => by cases e) hH
  · exact cu_none
theorem cu_Throw {N : Nat} {τ : Nat → Nat → Int} {h : HP} {m X : Nat} {st : List AV} {k n : Nat} (hH : clH N h) : Cu N τ (fun h => sThrow m X st h k n) h := by
  unfold sThrow
  exact cu_ite (cu_out (fun w e => by cases e) hH) cu_none
theorem cu_stepOp {N : Nat} {τ : Nat → Nat → Int} {h : HP} (hN : N ≤ SCR) (m : Nat) (i : Instr) (pc : Nat) {L : List (Option AV)} {st : List AV} (k n : Nat) (hL : clL N L) (hS : clS N st) (hH : clH N h) : Cu N τ (fun h => stepOp m i pc L st h k n) h := by
  unfold stepOp
  split
  all_goals first
    | exact cu_none
    | exact cu_LdI hL hS hH
    | exact cu_LdA hL hS hH
    | exact cu_StI hL hS hH
    | exact cu_StA hL hS hH
    | exact cu_K hL hS hH
    | exact cu_some hL (cs_cons (rf_long _) hS) hH
    | exact cu_some hL (cs_cons rf_null hS) hH
    | exact cu_Bin hL hS hH
    | exact cu_Div hL hS hH
    | exact cu_Bit hL hS hH
    | exact cu_If hL hS hH
    | exact cu_Cmp hL hS hH
    | exact cu_Nul hL hS hH
    | exact cu_jmp hL hS hH
    | exact cu_Sw hL hS hH
    | exact cu_GetF hL hS hH
    | exact cu_PutF hL hS hH
    | exact cu_Iald hN hL hS hH
    | exact cu_Iast hL hS hH
    | exact cu_Lald hL hS hH
    | exact cu_Last hL hS hH
    | exact cu_Zald hL hS hH
    | exact cu_Zast hL hS hH
    | exact cu_Aald hL hS hH
    | exact cu_Aast hL hS hH
    | exact cu_Alen hN hL hS hH
    | exact cu_NewA hL hS hH
    | exact cu_Call hL hS hH
    | exact cu_Iret hS hH
    | exact cu_Aret hS hH
    | exact cu_Vret hS hH
    | exact cu_ite (cu_K hL hS hH) cu_none
    | exact cu_ite (cu_NewA hL hS hH) (cu_ite (cu_NewA hL hS hH) cu_none)
    | (split
       · exact cu_Throw hH
       · exact cu_New hL hS hH)
    | (split
       · exact cu_K hL hS hH
       · exact cu_none)
    | (split
       · exact cu_ite (cu_some (cl_set (rf_int _) hL) hS hH) cu_none
       · exact cu_none)
    | (split
       · exact cu_ite (cu_some hL (cs_cons (rf_int _) (cs_tail hS)) hH) cu_none
       · exact cu_none)
    | (split
       · exact cu_some hL (cs_cons (rf_long _) (cs_tail hS)) hH
       · exact cu_none)
    | (split
       · exact cu_some hL (cs_cons (rf_int _) (cs_tail (cs_tail hS))) hH
       · exact cu_none)
    | (split
       · exact cu_ite (cu_some hL (cs_cons (cs_head hS) hS) hH) cu_none
       · exact cu_none)
    | (split
       · exact cu_ite (cu_some hL (cs_cons (cs_head hS) (cs_cons (cs_head (cs_tail hS)) hS)) hH) cu_none
       · exact cu_none)
    | (split
       · exact cu_ite (cu_some hL (cs_tail hS) hH) cu_none
       · exact cu_none)
theorem cu_step {N : Nat} {τ : Nat → Nat → Int} (hN : N ≤ SCR) (m : Nat) (F : Fr) (r : Ctl) (hL : clL N F.2.1) (hS : clS N F.2.2.1) (hH : clH N F.2.2.2.1) (e : step m F = some r) (hl : (hpC r).1.length = F.2.2.2.1.1.length) : clC N r ∧ step m (cuF N τ F) = some (cuC N τ r) ∧ (hpC r).1.drop N = F.2.2.2.1.1.drop N := by
  obtain ⟨pc, L, st, h, k, n⟩ := F
  unfold step at e ⊢
  dsimp only [cuF] at e hl ⊢
  cases ho : op m pc with
  | none => rw [ho] at e; cases e
  | some q =>
    rw [ho] at e
    exact cu_stepOp hN m q.1 pc k n hL hS hH r e hl
theorem cu_thr {m pc X : Nat} {h : HP} {o : Out} (e : thrOf m pc X h = some o) : o.2 = h ∧ (∀ N v, o.1 = .inl (some v) → rfA N v) ∧ ∀ N τ, thrOf m pc X (cuH N τ h) = some (o.1, cuH N τ o.2) := by
  unfold thrOf at e ⊢
  split at e
  · split at e
    · cases e
      exact ⟨rfl, (fun N v e => by cases e), fun N τ => by rename_i h1 h2; rw [if_pos h2]⟩
    · cases e
  · split at e
    · cases e
      exact ⟨rfl, fun N v e => by cases e; exact rf_int _, fun N τ => by rename_i h1 h2; rw [if_pos h2]⟩
    · cases e
theorem cu_run {N : Nat} {τ : Nat → Nat → Int} (hN : N ≤ SCR) : ∀ (K m : Nat) (F : Fr) (o : Out), clL N F.2.1 → clS N F.2.2.1 → clH N F.2.2.2.1 → run K m F = some o → o.2.1.length = F.2.2.2.1.1.length → (∀ v, o.1 = .inl (some v) → rfA N v) ∧ clH N o.2 ∧ run K m (cuF N τ F) = some (o.1, cuH N τ o.2) ∧ o.2.1.drop N = F.2.2.2.1.1.drop N := by
  intro K
  induction K with
  | zero => intro m F o _ _ _ e; cases e
  | succ K ih =>
    intro m F o hL hS hH e hlen
    rw [run_eq] at e
    cases hs : step m F with
    | none => rw [hs] at e; cases e
    | some r =>
      rw [hs] at e
      have l1 := (ox_step (E := []) m F r hs).1
      rcases r with F' | ⟨j, as, F'⟩ | q
      · dsimp only at e
        have l1' : F.2.2.2.1.1.length ≤ F'.2.2.2.1.1.length := l1
        have l2 := (ox_run [] K m F' o e).1
        obtain ⟨⟨a1, a2, a3⟩, b, c⟩ := cu_step hN m F _ hL hS hH hs (show F'.2.2.2.1.1.length = _ by omega)
        obtain ⟨p1, p2, p3, p4⟩ := ih m F' o a1 a2 a3 e (by omega)
        refine ⟨p1, p2, ?_, p4.trans c⟩
        rw [run_eq, b]
        exact p3
      · dsimp only at e
        have l1' : F.2.2.2.1.1.length ≤ F'.2.2.2.1.1.length := l1
        cases hc : run K j (entryF j as F'.2.2.2.1) with
        | none => rw [hc] at e; cases e
        | some q =>
          rw [hc] at e
          have l3 : F'.2.2.2.1.1.length ≤ q.2.1.length := (ox_run [] K j _ q hc).1
          obtain ⟨w, h2⟩ := q
          rcases w with v | X
          · dsimp only at e l3
            have l4 : h2.1.length ≤ o.2.1.length := (ox_run [] K m _ o e).1
            obtain ⟨⟨a0, a1, a2, a3⟩, b, c⟩ := cu_step hN m F _ hL hS hH hs (show F'.2.2.2.1.1.length = _ by omega)
            dsimp only at a0 a1 a2 a3
            have hE : clL N (as.map some ++ List.replicate (M_L j - as.length) none) := by
              intro u hu
              rcases List.mem_append.mp hu with hu | hu
              · obtain ⟨x, hx, ex⟩ := List.mem_map.mp hu
                cases ex
                exact a0 _ hx
              · have := (List.mem_replicate.mp hu).2
                cases this
            obtain ⟨p1, p2, p3, p4⟩ := ih j (entryF j as F'.2.2.2.1) _ hE (fun v e => by cases e) a3 hc (show h2.1.length = F'.2.2.2.1.1.length by omega)
            have hV : clS N (v.toList ++ F'.2.2.1) := by
              intro u hu
              rcases List.mem_append.mp hu with hu | hu
              · cases v with
                | none => cases hu
                | some v =>
                  cases hu with
                  | head => exact p1 _ rfl
                  | tail _ h => cases h
              · exact a2 u hu
            obtain ⟨q1, q2, q3, q4⟩ := ih m (pushO v F' h2) o a1 hV p2 e (show o.2.1.length = h2.1.length by omega)
            refine ⟨q1, q2, ?_, q4.trans (p4.trans c)⟩
            rw [run_eq, b]
            show (match run K j (entryF j as (cuH N τ F'.2.2.2.1)) with
              | none => none
              | some (.inl v, h) => run K m (pushO v (cuF N τ F') h)
              | some (.inr X, h) => thrOf m F.1 X h) = _
            rw [show entryF j as (cuH N τ F'.2.2.2.1) = cuF N τ (entryF j as F'.2.2.2.1) from rfl, p3]
            exact q3
          · dsimp only at e l3
            obtain ⟨t1, t2, t3⟩ := cu_thr e
            rw [t1] at hlen
            obtain ⟨⟨a0, a1, a2, a3⟩, b, c⟩ := cu_step hN m F _ hL hS hH hs (show F'.2.2.2.1.1.length = _ by omega)
            dsimp only at a0 a1 a2 a3
            have hE : clL N (as.map some ++ List.replicate (M_L j - as.length) none) := by
              intro u hu
              rcases List.mem_append.mp hu with hu | hu
              · obtain ⟨x, hx, ex⟩ := List.mem_map.mp hu
                cases ex
                exact a0 _ hx
              · have := (List.mem_replicate.mp hu).2
                cases this
            obtain ⟨p1, p2, p3, p4⟩ := ih j (entryF j as F'.2.2.2.1) _ hE (fun v e => by cases e) a3 hc (show h2.1.length = F'.2.2.2.1.1.length by omega)
            refine ⟨t2 N, by rw [t1]; exact p2, ?_, by rw [t1]; exact p4.trans c⟩
            rw [run_eq, b]
            show (match run K j (entryF j as (cuH N τ F'.2.2.2.1)) with
              | none => none
              | some (.inl v, h) => run K m (pushO v (cuF N τ F') h)
              | some (.inr X, h) => thrOf m F.1 X h) = _
            rw [show entryF j as (cuH N τ F'.2.2.2.1) = cuF N τ (entryF j as F'.2.2.2.1) from rfl, p3]
            exact t3 N τ
      · dsimp only at e
        cases e
        obtain ⟨⟨a1, a2⟩, b, c⟩ := cu_step hN m F _ hL hS hH hs hlen
        refine ⟨a1, a2, ?_, c⟩
        rw [run_eq, b]
        rfl
/-- a run over one heap is a run over another that begins with the same cells, whatever lies behind them -/
theorem Ret_swap {N m : Nat} (hN : N ≤ SCR) {pc : Nat} {L : List (Option AV)} {st : List AV} {S : List SH} {σ σ' : Nat → Nat → Int} {k n : Nat} {v : Option AV ⊕ Nat} (E : List SH) (τ : Nat → Nat → Int) (hL : clL N L) (hS : clS N st) (hH : clH N (S, σ)) (H : Ret m (pc, L, st, (S, σ), k, n) (v, (S, σ'))) : Ret m (pc, L, st, (S.take N ++ E, mixS N τ σ), k, n) (v, (S.take N ++ E, mixS N τ σ')) := by
  obtain ⟨K, h⟩ := H
  obtain ⟨_, _, p, _⟩ := cu_run (τ := τ) hN K m _ _ hL hS hH h rfl
  exact Ret_ex E rfl ⟨K, p⟩
end
