section SND6
variable {p : Program} {l : Launch} {e : Env} {R : Room} {s : State} {mid : MethodId} {args : Array Value} {below : List Frame} {meth : Method} {c : Code} {Q : State → Prop} {D : va_G} {cA : Nat → ClassId} {sz0 b Ls : Nat} {xs : Nat → Int32} {ad0 : Nat → Nat} {n0 m : Nat}
variable {pc k n : Nat} {L : List (Option AV)} {st : List AV} {h : HP} {F' : Fr}
theorem KX.warm {U : State} (hW : s.WarmedH U.vm) (h : KX D cA s) : KX D cA U := by
  obtain ⟨h1, h2, h3, h4, h5, h6, h7, h8⟩ := h
  refine ⟨va_K.moved hW.alike h1, va_AO.moved hW.alike h2, va_AO.moved hW.alike h3, fun E hE => va_Nw.warmC hW (h4 E hE), fun w hw => ?_, fun E E' a1 a2 a3 => (h6 E E' a1 a2 a3).moved hW.alike, fun q hq => ?_, fun w hw hg => word_at hW (good_of_word hg) (h8 w hw hg)⟩
  · have q := h5 w hw
    simp only [exD, List.mem_cons, List.not_mem_nil, or_false] at hw
    rcases hw with rfl | rfl | rfl <;> exact va_Nw.warmD hW q
  · obtain ⟨sa, z⟩ := h7 q hq
    exact ⟨sa, vk_R.warm hW z⟩
theorem HX.at {U : State} {H : Heap} {locs : List Loc} (hW : s.WarmedH U.vm) (hS : va_S (aS sz0) s.heap H locs) (h : HX sz0 b Ls xs s s.heap) : HX sz0 b Ls xs U H := by
  obtain ⟨h1, h2, h3, h4, h5⟩ := h
  exact ⟨vx_Zq.moved hW.alike (h1.kept hS.2.1), vx_Zq.moved hW.alike (h2.kept hS.2.1), va_X.moved hW.alike (h3.kept (hS.2.1 b (Nat.lt_of_lt_of_le h4 h5) (Nat.not_le.mpr h4))), h4, Nat.le_trans h5 hS.1⟩
def PcO (D : va_G) (cA : Nat → ClassId) (sz0 b Ls : Nat) (xs : Nat → Int32) (ad : Nat → Nat) (as : List AV) (h : HP) : Array Value → State → Prop := fun v U =>
  v = (as.map (cv ad)).toArray ∧ KX D cA U ∧ HX sz0 b Ls xs U U.heap ∧ va_P D vwCl (wsO cA ad h.1 h.2) U.heap ∧ va_D (aS sz0) (wsO cA ad h.1 h.2)
theorem PcO.blind {ad : Nat → Nat} {as : List AV} {h : HP} : FrameBlind (PcO D cA sz0 b Ls xs ad as h) := by
  intro a U g mk ⟨h1, h2, h3, h4, h5⟩
  exact ⟨h1, KX.warm (s := U) (U := U.calling g mk a) (State.WarmedH.refl U) h2, HX.at (s := U) (U := U.calling g mk a) (State.WarmedH.refl U) va_S.rf h3, h4, h5⟩
def wsM (j : Nat) : List Jvm.Cond := M_code j :: lwG
theorem sl_len {l : List Value} (h : ∀ v ∈ l, v.category = 1) : (lg_sl l).length = l.length := by
  induction l with
  | nil => rfl
  | cons v t ih =>
    have e : lg_sl (v :: t) = (if v.category = 2 then [Slot.val v, Slot.second] else [Slot.val v]) ++ lg_sl t := rfl
    rw [e, if_neg (by rw [h v List.mem_cons_self]; decide), List.length_append, ih (fun w hw => h w (List.mem_cons_of_mem _ hw))]
    simp
    omega
theorem args_at {l : List Value} (h : ∀ v ∈ l, v.category = 1) : ∀ (i j : Nat) (v : Value), l[j]? = some v → (i + j, v) ∈ lv_args i l := by
  induction l with
  | nil => intro i j v hj; simp at hj
  | cons w t ih =>
    intro i j v hj
    have hw := h w List.mem_cons_self
    cases j with
    | zero =>
      simp only [List.getElem?_cons_zero, Option.some.injEq] at hj
      subst hj
      exact List.mem_cons_self
    | succ j =>
      simp only [List.getElem?_cons_succ] at hj
      have q := ih (fun u hu => h u (List.mem_cons_of_mem _ hu)) (i + 1) j v hj
      rw [show i + 1 + j = i + (j + 1) by omega] at q
      refine List.mem_cons_of_mem _ ?_
      rw [if_neg (by rw [hw]; decide)]
      exact q
theorem lt_meth {j pc : Nat} {x : Instr × Nat} (h : zop j pc = some x) : j < nMeth := by
  rcases Nat.lt_or_ge j nMeth with q | q
  · exact q
  · have e : zM_r j = mrNo := by unfold zM_r; rw [List.getD_eq_getElem?_getD, List.getElem?_eq_none (by rw [mtab_len]; exact q)]; rfl
    have h1 := lkup_mem h
    unfold zM_c at h1
    rw [e] at h1
    cases h1
theorem run_lt {nf j : Nat} {F : Fr} {o : Out} (h : zrun nf j F = some o) : j < nMeth := by
  cases nf with
  | zero => cases h
  | succ nf =>
    unfold zrun at h
    cases hs : zstep j F with
    | none => rw [hs] at h; cases h
    | some c9 =>
      unfold zstep at hs
      cases ho : zop j F.1 with
      | none => rw [ho] at hs; cases hs
      | some x => exact lt_meth ho
/-- a callee's contract out of its zrun -/
theorem met_of {j : Nat} (h0 : ¬ j = 0) (hj : j < nMeth) (hD : DecOK) {as : List AV} {h : HP} {o : Out} {ad : Nat → Nat} (hl : l.stackTraces = false) (hv : ∀ v ∈ as, okV h.1.length v ∧ avc v = 1) (hlen : as.length ≤ zM_L j) (rh : okH h) (rx : okX Ls xs h.2) (rb : ad SCR = b)
    (IH : ∀ (p : Program) (e : Env) (R : Room) (s : State) (mid : MethodId) (args : Array Value) (below : List Frame) (meth : Method) (c : Code) (Q : State → Prop), CX p l R s mid args meth c D cA sz0 b Ls xs j → FIN p l e R s mid args below meth c Q D cA sz0 b Ls xs ad h.1.length j o → GW p l e R s mid args below meth c Q D cA sz0 b Ls xs ad h.1.length j (zentryF j as h)) :
    vx_Met l (zM_y j) (wsM j) (rmOf j) (PcO D cA sz0 b Ls xs ad as h) (QcO D cA sz0 b Ls xs ad h.1.length o) (XCO D cA sz0 b Ls xs ad h.1.length o) (zM_mc j) (zM_ms j) (aS sz0) := by
  obtain ⟨k1, k2, k3, k4, k5, k6, k7, k8, k9, k10, k11, k12⟩ := M_ok h0 hj
  have body : ∀ (p : Program) (e : Env) (s : State) (mid : MethodId) (args : Array Value) (below : List Frame) (meth : Method) (c : Code) (s₁ : State), BodyLoose p l (zM_y j) (headSpec (wsM j) (rmOf j)) (zM_b j) (zM_L j) (zM_ret j) e s mid args below meth c s₁ → c.maxLocals = zM_L j → c.exceptionTable.toList = tableOf (M_h4 j) → PcO D cA sz0 b Ls xs ad as h args s →
      W p l e (headSpec (wsM j) (rmOf j)).room s mid args below meth c s.heap [] 0 0 (vx_MQ below (QcO D cA sz0 b Ls xs ad h.1.length o) (XCO D cA sz0 b Ls xs ad h.1.length o) args s (zM_mc j) (zM_ms j) (aS sz0)) (entryFrame mid args (zM_L j)) := by
    intro p e s mid args below meth c s₁ B hml ht hP
    obtain ⟨rfl, pK, pH, pP, pD⟩ := hP
    have hts0 := atoms_spec (ws := wsM j) B.pre
    have C : CX p l (rmOf j) s mid (as.map (cv ad)).toArray meth c D cA sz0 b Ls xs j :=
      ⟨B.exec, B.bytes, hml, by rw [← k6]; exact findClass_of_methodNamed B.named, fun w hw hg => hts0 w (List.mem_cons_of_mem _ (lwG_in ⟨hw, hg⟩)), ⟨B.notSynchronized, Or.inr ht, B.returns⟩, fun hk => by rw [(name_of_methodNamed B.named B.method).1]; exact (k12 hk).1, hl, rfl, pK, pH⟩
    have hcat : ∀ v ∈ as.map (cv ad), v.category = 1 := by
      intro v hv9
      obtain ⟨w, hw, rfl⟩ := List.mem_map.mp hv9
      rw [cv_cat]; exact (hv w hw).2
    have hsl := sl_len hcat
    have hl9 := lv_entry (as.map (cv ad)) (n := zM_L j) (by rw [hsl, List.length_map]; exact hlen)
    rw [lg_entry_eq]
    generalize (lg_sl (as.map (cv ad)) ++ List.replicate (zM_L j - (lg_sl (as.map (cv ad))).length) Slot.unset).toArray = ls at hl9 ⊢
    have hat : ∀ (i : Nat) (v : AV), (as.map some ++ List.replicate (zM_L j - as.length) none)[i]? = some (some v) → as[i]? = some v := by
      intro i v hi
      rw [List.getElem?_append] at hi
      split at hi
      · rw [List.getElem?_map] at hi
        cases hz : as[i]? with
        | none => rw [hz] at hi; cases hi
        | some z => rw [hz] at hi; exact Option.some.inj hi
      · rw [List.getElem?_replicate] at hi
        split at hi <;> cases hi
    refine IH p e (rmOf j) s mid _ below meth c _ C (fin_of h0 hD C) ad s.heap [] ls ⟨⟨hl9.1, hl9.2.1, fun q hq => ?_⟩, ?_, ?_, fun v hv9 => absurd hv9 List.not_mem_nil, rh, rx, pP, pD, va_S.rf, rb, Nat.le_refl _, fun a _ => rfl⟩ (Nat.zero_le _) (Nat.zero_le _)
    · obtain ⟨i, v, h1, rfl⟩ := knL_of _ _ _ hq
      refine hl9.2.2 _ (args_at hcat 0 i _ ?_)
      rw [List.getElem?_map, hat i v h1]; rfl
    · show (as.map some ++ List.replicate (zM_L j - as.length) none).length = zM_L j
      simp
      omega
    · intro v hv9
      obtain ⟨i, hi⟩ := List.getElem?_of_mem hv9
      exact hv v (List.mem_of_getElem? (hat i v hi))
  by_cases hh : zM_hh j = []
  · have e : M_code j = .code (zM_y j) (zM_b j) (zM_L j) (zM_ret j) := by unfold M_code; rw [if_pos hh]
    refine vx_ofW (cc := zM_b j) (maxL := zM_L j) (ret := zM_ret j) (ws' := lwG) k7 (by unfold wsM; rw [e]) (fun p e s mid args below meth c s₁ B hml ht hP => body p e s mid args below meth c s₁ B hml ?_ hP)
    unfold M_h4
    rw [hh]
    cases hz : c.exceptionTable.toList with
    | nil => rfl
    | cons x t => exact absurd (by rw [hz]; exact List.mem_cons_self) (fun q => ht x q)
  · have eM : M_code j = .codeWith (zM_y j) (zM_b j) (zM_L j) (zM_ret j) (M_h4 j) := by unfold M_code; rw [if_neg hh]
    refine vx_ofWH (cc := zM_b j) (maxL := zM_L j) (ret := zM_ret j) (hh := M_h4 j) (ws' := lwG) k7 (by unfold wsM; rw [eM]) (fun p e s mid args below meth c s₁ B hml hP => body p e s mid args below meth c s₁ B hml ?_ hP)
    exact vx_table (x := zM_y j) B (by have q := atoms_spec (ws := wsM j) B.pre _ List.mem_cons_self; rw [eM] at q; exact q)
end SND6
