/-! From the ghost law's calls back to the class's own. -/
noncomputable section
/-- what makes no cell and changes no shape -/
def nsM (j : Nat) : Bool := cKb j && (!decide (M_k j = 2) && !decide (j = 88) && !decide (j = 144))
def nsI (m pc : Nat) (i : Instr) : Bool := match i with
  | .newarray _ => false
  | .anewarray _ => false
  | .aastore => false
  | .putfield x => (match fl (M_o m) x with
    | some (_, _, _, isR) => !isR
    | none => true)
  | .new _ => (xt m pc).isSome
  | .invokestatic x => (match ml (M_o m) x with
    | some j => decide (1000 ≤ j ∧ j ≤ 1002) || nsM j
    | none => true)
  | .invokevirtual x => (match ml (M_o m) x with
    | some j => decide (1000 ≤ j ∧ j ≤ 1002) || nsM j
    | none => true)
  | .invokespecial x => (match ml (M_o m) x with
    | some j => decide (1000 ≤ j ∧ j ≤ 1002) || nsM j
    | none => true)
  | _ => true
def nsOK (m : Nat) : Bool := !nsM m || (M_c m).all (fun r => nsI m r.1 r.2.1)
set_option maxRecDepth 100000 in
theorem nsK_0 : (((List.range 444).drop 0).take 60).all nsOK = true := by decide +kernel
set_option maxRecDepth 100000 in
theorem nsK_60 : (((List.range 444).drop 60).take 60).all nsOK = true := by decide +kernel
set_option maxRecDepth 100000 in
theorem nsK_120 : (((List.range 444).drop 120).take 60).all nsOK = true := by decide +kernel
set_option maxRecDepth 100000 in
theorem nsK_180 : (((List.range 444).drop 180).take 60).all nsOK = true := by decide +kernel
set_option maxRecDepth 100000 in
theorem nsK_240 : (((List.range 444).drop 240).take 60).all nsOK = true := by decide +kernel
set_option maxRecDepth 100000 in
theorem nsK_300 : (((List.range 444).drop 300).take 60).all nsOK = true := by decide +kernel
set_option maxRecDepth 100000 in
theorem nsK_360 : (((List.range 444).drop 360).take 60).all nsOK = true := by decide +kernel
set_option maxRecDepth 100000 in
theorem nsK_420 : (((List.range 444).drop 420).take 60).all nsOK = true := by decide +kernel
theorem nsK_all : (List.range 444).all nsOK = true := all_cut _ 0 60 nsK_0 (all_cut _ 60 60 nsK_60 (all_cut _ 120 60 nsK_120 (all_cut _ 180 60 nsK_180 (all_cut _ 240 60 nsK_240 (all_cut _ 300 60 nsK_300 (all_cut _ 360 60 nsK_360 (all_cut _ 420 60 nsK_420 (all_end _ 480 (by decide +kernel)))))))))
theorem ns_at {m pc len : Nat} {i : Instr} (hm : nsM m = true) (ho : op m pc = some (i, len)) : nsI m pc i = true := by
  have hlt : m < 444 := by
    unfold nsM cKb at hm
    simp only [Bool.and_eq_true, Bool.or_eq_true, decide_eq_true_eq] at hm
    omega
  have h1 := List.all_eq_true.mp nsK_all m (List.mem_range.mpr hlt)
  unfold nsOK at h1
  rw [hm, Bool.not_true, Bool.false_or] at h1
  exact List.all_eq_true.mp h1 _ (lkup_mem ho)
section
variable {m pc k n : Nat} {i : Instr} {L : List (Option AV)} {st : List AV} {h : HP} {r : Ctl}
theorem ns_Call {kd : Nat} {q : Option Nat} {pc' : Nat} (hs : sCall m kd q pc' L st h k n = some r) : (hpC r).1 = h.1 ∧ ∀ j as F, r = .inr (.inl (j, as, F)) → q = some j ∧ ¬ (1000 ≤ j ∧ j ≤ 1002) := by
  have b1 : ∀ {x : Ctl}, (∃ F, x = .inl F ∧ F.2.2.2.1 = h) → (hpC x).1 = h.1 ∧ ∀ j as F, x = .inr (.inl (j, as, F)) → q = some j ∧ ¬ (1000 ≤ j ∧ j ≤ 1002) := by
    intro x ⟨F, e1, e2⟩
    subst e1
    exact ⟨by show F.2.2.2.1.1 = _; rw [e2], fun j as F e => by cases e⟩
  unfold sCall at hs
  split at hs
  · cases hs
  · rename_i j
    split at hs
    · split at hs
      · split at hs
        · cases hs; exact b1 ⟨_, rfl, rfl⟩
        · cases hs
      · cases hs
    · rename_i n1
      split at hs
      · split at hs
        · split at hs
          · cases hs; exact b1 ⟨_, rfl, rfl⟩
          · cases hs
        · cases hs
      · rename_i n2
        split at hs
        · split at hs
          · split at hs
            · cases hs; exact b1 ⟨_, rfl, rfl⟩
            · cases hs
          · cases hs
        · rename_i n3
          try dsimp only at hs
          split at hs
          · split at hs
            · split at hs
              · split at hs
                · cases hs; exact ⟨rfl, fun j as F e => by cases e; exact ⟨rfl, by omega⟩⟩
                · cases hs
              · cases hs
            · cases hs; exact ⟨rfl, fun j as F e => by cases e; exact ⟨rfl, by omega⟩⟩
            · cases hs; exact ⟨rfl, fun j as F e => by cases e; exact ⟨rfl, by omega⟩⟩
            · cases hs
          · cases hs
theorem ns_op (hi : nsI m pc i = true) (hs : stepOp m i pc L st h k n = some r) : (hpC r).1 = h.1 := by
  cases i
  case newarray a => cases hi
  case anewarray a => cases hi
  case aastore => cases hi
  case putfield x =>
    unfold stepOp sPutF at hs
    unfold nsI at hi
    dsimp only at hs hi
    cases hq : fl (M_o m) x with
    | none => rw [hq] at hs; cases hs
    | some q =>
      obtain ⟨ci, f, fin, isR⟩ := q
      rw [hq] at hs hi
      dsimp only at hi
      cases isR with
      | true => cases hi
      | false =>
        try dsimp only at hs
        (repeat' split at hs) <;> first | (cases hs; done) | (cases hs; rfl) | (exfalso; simp_all)
  case new x =>
    unfold stepOp at hs
    unfold nsI at hi
    dsimp only at hs hi
    cases hx : xt m pc with
    | none => rw [hx] at hi; cases hi
    | some E =>
      rw [hx] at hs
      dsimp only at hs
      unfold sThrow at hs
      split at hs
      · cases hs; rfl
      · cases hs
  case invokestatic x => exact (ns_Call hs).1
  case invokevirtual x => exact (ns_Call hs).1
  case invokespecial x => exact (ns_Call hs).1
  case ireturn =>
    unfold stepOp sIret at hs
    dsimp only at hs
    split at hs
    · cases hs; rfl
    · split at hs
      · cases hs; rfl
      · cases hs
    · cases hs
  case areturn =>
    unfold stepOp sAret at hs
    dsimp only at hs
    split at hs
    · split at hs
      · cases hs; rfl
      · cases hs
    · cases hs
  case return_ =>
    unfold stepOp sVret at hs
    dsimp only at hs
    split at hs
    · cases hs; rfl
    · cases hs
  all_goals (unfold stepOp at hs; dsimp only at hs)
  all_goals (first | (cases hs; done) | (cases hs; rfl) | skip)
  all_goals (first | unfold sLdI at hs | unfold sLdA at hs | unfold sStI at hs | unfold sStA at hs | unfold sK at hs | unfold sBin at hs | unfold sDiv at hs | unfold sBit at hs | unfold sIf at hs | unfold sCmp at hs | unfold sNul jmp at hs | unfold sSw jmp at hs | unfold sGetF at hs | unfold sPutF at hs | unfold sIald at hs | unfold sIast at hs | unfold sLald at hs | unfold sLast at hs | unfold sZald at hs | unfold sZast at hs | unfold sAald at hs | unfold sAast at hs | unfold sAlen at hs | unfold sNewA at hs | unfold sCall at hs | unfold jmp at hs | skip)
  all_goals (try unfold sK at hs)
  all_goals (try dsimp only at hs)
  all_goals (repeat' split at hs)
  all_goals (first | (cases hs; done) | (cases hs; rfl) | skip)
end
theorem ns_cal {m pc k n j : Nat} {i : Instr} {L : List (Option AV)} {st : List AV} {h : HP} {as : List AV} {F : Fr} (hi : nsI m pc i = true) (hs : stepOp m i pc L st h k n = some (.inr (.inl (j, as, F)))) : nsM j = true := by
  have key : ∀ {kd q : Nat} {pc' : Nat}, sCall m kd (ml (M_o m) q) pc' L st h k n = some (.inr (.inl (j, as, F))) → (match ml (M_o m) q with
    | some j => decide (1000 ≤ j ∧ j ≤ 1002) || nsM j
    | none => true) = true → nsM j = true := by
    intro kd q pc' h1 h2
    obtain ⟨e1, e2⟩ := (ns_Call h1).2 j as F rfl
    rw [e1] at h2
    dsimp only at h2
    rw [Bool.or_eq_true, decide_eq_true_eq] at h2
    exact h2.resolve_left e2
  cases i
  case invokestatic x => exact key hs hi
  case invokevirtual x => exact key hs hi
  case invokespecial x => exact key hs hi
  case newarray a => cases hi
  case anewarray a => cases hi
  case aastore => cases hi
  case new x =>
    unfold stepOp at hs
    dsimp only at hs
    split at hs
    · unfold sThrow at hs
      split at hs <;> cases hs
    · unfold sNew at hs
      split at hs
      · split at hs
        · split at hs <;> cases hs
        · cases hs
      · cases hs
  case ireturn =>
    unfold stepOp sIret at hs
    dsimp only at hs
    split at hs
    · cases hs
    · split at hs <;> cases hs
    · cases hs
  case areturn =>
    unfold stepOp sAret at hs
    dsimp only at hs
    split at hs
    · split at hs <;> cases hs
    · cases hs
  case return_ =>
    unfold stepOp sVret at hs
    dsimp only at hs
    split at hs <;> cases hs
  all_goals (unfold stepOp at hs; dsimp only at hs)
  all_goals (first | (cases hs; done) | skip)
  all_goals (first | unfold sLdI at hs | unfold sLdA at hs | unfold sStI at hs | unfold sStA at hs | unfold sK at hs | unfold sBin at hs | unfold sDiv at hs | unfold sBit at hs | unfold sIf at hs | unfold sCmp at hs | unfold sNul jmp at hs | unfold sSw jmp at hs | unfold sGetF at hs | unfold sPutF at hs | unfold sIald at hs | unfold sIast at hs | unfold sLald at hs | unfold sLast at hs | unfold sZald at hs | unfold sZast at hs | unfold sAald at hs | unfold sAast at hs | unfold sAlen at hs | unfold sNewA at hs | unfold sCall at hs | unfold jmp at hs | skip)
  all_goals (try unfold sK at hs)
  all_goals (try dsimp only at hs)
  all_goals (repeat' split at hs)
  all_goals (first | (cases hs; done) | skip)
theorem thr_hp {m pc E : Nat} {h : HP} {o : Out} (e : thrOf m pc E h = some o) : o.2 = h := (cf_thr e).1
theorem ns_run : ∀ (K m : Nat) (F : Fr) (o : Out), nsM m = true → run K m F = some o → o.2.1 = F.2.2.2.1.1 := by
  intro K
  induction K with
  | zero => intro m F o _ e; cases e
  | succ K ih =>
    intro m F o hm e
    rw [run_eq] at e
    cases hs : step m F with
    | none => rw [hs] at e; cases e
    | some r =>
      rw [hs] at e
      have hs' := hs
      unfold step at hs'
      cases ho : op m F.1 with
      | none => rw [ho] at hs'; cases hs'
      | some q =>
        rw [ho] at hs'
        dsimp only at hs'
        have hi := ns_at hm ho
        have h1 := ns_op hi hs'
        rcases r with F' | ⟨j, as, F'⟩ | o'
        · exact (ih m F' o hm e).trans h1
        · have hj := ns_cal hi hs'
          dsimp only at e
          cases hc : run K j (entryF j as F'.2.2.2.1) with
          | none => rw [hc] at e; cases e
          | some w =>
            rw [hc] at e
            have h2' := ih j _ _ hj hc
            have h2 : w.2.1 = F'.2.2.2.1.1 := h2'
            obtain ⟨v, h3⟩ := w
            rcases v with v | E
            · exact (ih m _ o hm e).trans (h2.trans h1)
            · dsimp only at e
              rw [thr_hp e]
              exact h2.trans h1
        · dsimp only at e
          cases e
          exact h1
/-- a method that answers a number answers one -/
theorem ri_op {m pc k n : Nat} {i : Instr} {L : List (Option AV)} {st : List AV} {h h' : HP} {v : Option AV} (hr : M_ret m = some .int ∨ M_ret m = some .boolean) (hs : stepOp m i pc L st h k n = some (.inr (.inr (.inl v, h')))) : ∃ x, v = some (.inl x) ∧ (M_ret m = some .boolean → x = 0 ∨ x = 1) := by
  cases i
  case ireturn =>
    unfold stepOp sIret at hs
    dsimp only at hs
    split at hs
    · rename_i h9
      cases hs
      exact ⟨_, rfl, fun e => by rw [h9] at e; cases e⟩
    · split at hs
      · rename_i h9 h8
        cases hs
        exact ⟨_, rfl, fun _ => h8⟩
      · cases hs
    · cases hs
  case areturn =>
    unfold stepOp sAret at hs
    dsimp only at hs
    split at hs
    · split at hs
      · rename_i h9
        exfalso
        rcases hr with e | e <;> (rw [e] at h9; cases h9)
      · cases hs
    · cases hs
  case return_ =>
    unfold stepOp sVret at hs
    dsimp only at hs
    split at hs
    · rename_i h9
      exfalso
      rcases hr with e | e <;> (rw [e] at h9; cases h9)
    · cases hs
  case new x =>
    unfold stepOp at hs
    dsimp only at hs
    split at hs
    · unfold sThrow at hs
      split at hs <;> cases hs
    · unfold sNew at hs
      split at hs
      · split at hs
        · split at hs <;> cases hs
        · cases hs
      · cases hs
  case invokestatic x => unfold stepOp sCall at hs; dsimp only at hs; (repeat' split at hs) <;> cases hs
  case invokevirtual x => unfold stepOp sCall at hs; dsimp only at hs; (repeat' split at hs) <;> cases hs
  case invokespecial x => unfold stepOp sCall at hs; dsimp only at hs; (repeat' split at hs) <;> cases hs
  case newarray a9 =>
    cases a9 <;> (unfold stepOp at hs; dsimp only at hs) <;> (try unfold sNewA at hs) <;> (repeat' split at hs) <;> cases hs
  all_goals (unfold stepOp at hs; dsimp only at hs)
  all_goals (first | (cases hs; done) | skip)
  all_goals (first | unfold sLdI at hs | unfold sLdA at hs | unfold sStI at hs | unfold sStA at hs | unfold sK at hs | unfold sBin at hs | unfold sDiv at hs | unfold sBit at hs | unfold sIf at hs | unfold sCmp at hs | unfold sNul jmp at hs | unfold sSw jmp at hs | unfold sGetF at hs | unfold sPutF at hs | unfold sIald at hs | unfold sIast at hs | unfold sLald at hs | unfold sLast at hs | unfold sZald at hs | unfold sZast at hs | unfold sAald at hs | unfold sAast at hs | unfold sAlen at hs | unfold sNewA at hs | unfold sCall at hs | unfold jmp at hs | skip)
  all_goals (try unfold sK at hs)
  all_goals (try dsimp only at hs)
  all_goals (repeat' split at hs)
  all_goals (first | (cases hs; done) | skip)
theorem ri_run : ∀ (K m : Nat) (F : Fr) (v : Option AV) (h : HP), (M_ret m = some .int ∨ M_ret m = some .boolean) → (M_ret m = some .boolean → M_hh m = []) → run K m F = some (.inl v, h) → ∃ x, v = some (.inl x) ∧ (M_ret m = some .boolean → x = 0 ∨ x = 1) := by
  intro K
  induction K with
  | zero => intro m F v h _ _ e; cases e
  | succ K ih =>
    intro m F v h hr hb e
    rw [run_eq] at e
    cases hs : step m F with
    | none => rw [hs] at e; cases e
    | some r =>
      rw [hs] at e
      rcases r with F' | ⟨j, as, F'⟩ | o'
      · exact ih m F' v h hr hb e
      · dsimp only at e
        cases hc : run K j (entryF j as F'.2.2.2.1) with
        | none => rw [hc] at e; cases e
        | some w =>
          rw [hc] at e
          obtain ⟨v2, h3⟩ := w
          rcases v2 with v2 | E
          · exact ih m _ v h hr hb e
          · dsimp only at e
            unfold thrOf at e
            split at e
            · split at e <;> cases e
            · rename_i c hcc
              split at e
              · cases e
                refine ⟨_, rfl, fun hz => ?_⟩
                exfalso
                unfold hnd at hcc
                rw [hb hz] at hcc
                cases hcc
              · cases e
      · dsimp only at e
        cases e
        unfold step at hs
        cases ho : op m F.1 with
        | none => rw [ho] at hs; cases hs
        | some q => rw [ho] at hs; exact ri_op hr hs
theorem Ret_nx {m : Nat} {F F' : Fr} {o : Out} (hs : step m F = some (.inl F')) (H : Ret m F o) : Ret m F' o := by
  obtain ⟨N, h⟩ := H
  cases N with
  | zero => cases h
  | succ N => rw [run_eq, hs] at h; exact ⟨N, h⟩
theorem Gd_nx {m pc pc' k n k' n' len : Nat} {i : Instr} {L L' : List (Option AV)} {st st' : List AV} {σ σ' : Sg} {o : Rs} (ho : op m pc = some (i, len)) (hs : stepOp m i pc L st (SH0, σ) k n = some (.inl (pc', L', st', (SH0, σ'), k', n'))) (H : Gd m pc L st σ k n o) : Gd m pc' L' st' σ' k' n' o := Ret_nx ((step_op ho).trans hs) H
theorem Gd_cl {m pc pc' k n k' n' len j : Nat} {i : Instr} {as : List AV} {L : List (Option AV)} {st t : List AV} {σ : Sg} {o : Rs} (ho : op m pc = some (i, len)) (hs : stepOp m i pc L st (SH0, σ) k n = some (.inr (.inl (j, as, (pc', L, t, (SH0, σ), k', n'))))) (hn : nsM j = true) (hr : M_ret j = some .int ∨ M_ret j = some .boolean) (hb : M_hh j = []) (H : Gd m pc L st σ k n o) :
    (∃ x s, Dd j as σ (.inl (some (.inl x)), s) ∧ (M_ret j = some .boolean → x = 0 ∨ x = 1)) ∨ (∃ E s, Dd j as σ (.inr E, s) ∧ thrOf m pc E (SH0, s) = some (o.1, (SH0, o.2))) := by
  obtain ⟨N, h⟩ := H
  cases N with
  | zero => cases h
  | succ N =>
    rw [run_eq, (step_op ho).trans hs] at h
    dsimp only at h
    cases hc : run N j (entryF j as (SH0, σ)) with
    | none => rw [hc] at h; cases h
    | some w =>
      rw [hc] at h
      have h1 : w.2.1 = SH0 := ns_run N j _ _ hn hc
      obtain ⟨v, S, s⟩ := w
      cases h1
      rcases v with v | E
      · left
        obtain ⟨x, e1, e2⟩ := ri_run N j _ _ _ hr (fun _ => hb) hc
        subst e1
        exact ⟨x, s, ⟨N, hc⟩, e2⟩
      · exact Or.inr ⟨E, s, ⟨N, hc⟩, h⟩
theorem Dd_inv {j l : Nat} {as : List AV} {σ : Sg} {o : Rs} (hL : M_L j = l) (H : Dd j as σ o) : Gd j 0 (as.map some ++ List.replicate (l - as.length) none) [] σ 0 0 o := by
  subst hL
  exact H
theorem thr_k {m pc E : Nat} {s s1 : Sg} {kx : Int} (h0 : (M_hh m).all (fun q => !decide (q.2.2.2.2.2 = 0)) = true) (h1 : ¬ M_hh m = []) (h : thrOf m pc E (SH0, s) = some (.inl (some (.inl kx)), (SH0, s1))) : s = s1 ∧ ¬ kx = 0 ∧ hnd m pc E = some kx := by
  unfold thrOf at h
  cases hh : hnd m pc E with
  | none => rw [hh] at h; dsimp only at h; rw [if_neg h1] at h; cases h
  | some c =>
    rw [hh] at h
    dsimp only at h
    split at h
    · cases h
      refine ⟨rfl, fun e => ?_, rfl⟩
      subst e
      unfold hnd at hh
      obtain ⟨q, hq, e⟩ := Option.map_eq_some_iff.mp hh
      have := List.all_eq_true.mp h0 q (List.mem_of_find?_eq_some hq)
      rw [e] at this
      cases this
    · cases h
theorem iw390 {x1 : Int} {x2 : Int} {x3 : Int} {σ s1 : Sg} {kx : Int} (H : Dd 390 [(.inr (.inr (some 0))), (.inl x1), (.inl x2), (.inl x3), (.inr (.inr (some 726)))] σ (.inl (some (.inl kx)), s1)) : (∃ (v : Int) (s : Sg), Dd 172 [(.inr (.inr (some 0))), (.inl x1), (.inl x2), (.inl x3)] σ (.inl (some (.inl v)), s) ∧ kx = 0 ∧ s1 = upS s 726 0 v) ∨ (∃ E : Nat, Dd 172 [(.inr (.inr (some 0))), (.inl x1), (.inl x2), (.inl x3)] σ (.inr E, s1) ∧ ¬ kx = 0 ∧ hnd 390 7 E = some kx) := by
  have h0 := Dd_inv (l := 6) (by decide +kernel) H
  have h1 := Gd_nx (show op 390 0 = some (.aload 4, 2) by decide +kernel) rfl h0
  have h2 := Gd_nx (show op 390 2 = some (.iconst 0, 1) by decide +kernel) (sK_ok rfl) h1
  have h3 := Gd_nx (show op 390 3 = some (.aload_n 0, 1) by decide +kernel) rfl h2
  have h4 := Gd_nx (show op 390 4 = some (.iload_n 1, 1) by decide +kernel) rfl h3
  have h5 := Gd_nx (show op 390 5 = some (.iload_n 2, 1) by decide +kernel) rfl h4
  have h6 := Gd_nx (show op 390 6 = some (.iload_n 3, 1) by decide +kernel) rfl h5
  rcases Gd_cl (show op 390 7 = some (.invokevirtual 7, 3) by decide +kernel) (call_vi' (k' := 4) (n' := 24) (nj := 4) (j := 172) (k9 := 20) (t := [(.inl 0), (.inr (.inr (some 726)))]) (as := [(.inr (.inr (some 0))), (.inl x1), (.inl x2), (.inl x3)]) (by decide +kernel) rfl (by decide +kernel) rfl rfl rfl rfl rfl rfl (by decide +kernel) (by decide +kernel)) (by decide +kernel) (Or.inl (by decide +kernel)) (by decide +kernel) h6 with ⟨x, s, hD, hb⟩ | ⟨E, s, hD, ht⟩
  · have e := Gd_det H (b390 (Or.inl ⟨x, s, hD, rfl⟩))
    cases e
    exact Or.inl ⟨x, s, hD, rfl, rfl⟩
  · obtain ⟨e1, e2, e3⟩ := thr_k (by decide +kernel) (by decide +kernel) ht
    subst e1
    exact Or.inr ⟨E, hD, e2, e3⟩
theorem iw391 {x1 : Int} {x2 : Int} {σ s1 : Sg} {kx : Int} (H : Dd 391 [(.inr (.inr (some 0))), (.inl x1), (.inl x2), (.inr (.inr (some 726)))] σ (.inl (some (.inl kx)), s1)) : (∃ (v : Int) (s : Sg), Dd 173 [(.inr (.inr (some 0))), (.inl x1), (.inl x2)] σ (.inl (some (.inl v)), s) ∧ kx = 0 ∧ s1 = upS s 726 0 v) ∨ (∃ E : Nat, Dd 173 [(.inr (.inr (some 0))), (.inl x1), (.inl x2)] σ (.inr E, s1) ∧ ¬ kx = 0 ∧ hnd 391 5 E = some kx) := by
  have h0 := Dd_inv (l := 5) (by decide +kernel) H
  have h1 := Gd_nx (show op 391 0 = some (.aload_n 3, 1) by decide +kernel) rfl h0
  have h2 := Gd_nx (show op 391 1 = some (.iconst 0, 1) by decide +kernel) (sK_ok rfl) h1
  have h3 := Gd_nx (show op 391 2 = some (.aload_n 0, 1) by decide +kernel) rfl h2
  have h4 := Gd_nx (show op 391 3 = some (.iload_n 1, 1) by decide +kernel) rfl h3
  have h5 := Gd_nx (show op 391 4 = some (.iload_n 2, 1) by decide +kernel) rfl h4
  rcases Gd_cl (show op 391 5 = some (.invokevirtual 19, 3) by decide +kernel) (call_vi' (k' := 2) (n' := 12) (nj := 3) (j := 173) (k9 := 20) (t := [(.inl 0), (.inr (.inr (some 726)))]) (as := [(.inr (.inr (some 0))), (.inl x1), (.inl x2)]) (by decide +kernel) rfl (by decide +kernel) rfl rfl rfl rfl rfl rfl (by decide +kernel) (by decide +kernel)) (by decide +kernel) (Or.inl (by decide +kernel)) (by decide +kernel) h5 with ⟨x, s, hD, hb⟩ | ⟨E, s, hD, ht⟩
  · have e := Gd_det H (b391 (Or.inl ⟨x, s, hD, rfl⟩))
    cases e
    exact Or.inl ⟨x, s, hD, rfl, rfl⟩
  · obtain ⟨e1, e2, e3⟩ := thr_k (by decide +kernel) (by decide +kernel) ht
    subst e1
    exact Or.inr ⟨E, hD, e2, e3⟩
theorem iw392 {x1 : Int} {x2 : Int} {σ s1 : Sg} {kx : Int} (H : Dd 392 [(.inr (.inr (some 0))), (.inl x1), (.inl x2), (.inr (.inr (some 726)))] σ (.inl (some (.inl kx)), s1)) : (∃ (v : Int) (s : Sg), Dd 174 [(.inr (.inr (some 0))), (.inl x1), (.inl x2)] σ (.inl (some (.inl v)), s) ∧ kx = 0 ∧ s1 = upS s 726 0 v) ∨ (∃ E : Nat, Dd 174 [(.inr (.inr (some 0))), (.inl x1), (.inl x2)] σ (.inr E, s1) ∧ ¬ kx = 0 ∧ hnd 392 5 E = some kx) := by
  have h0 := Dd_inv (l := 5) (by decide +kernel) H
  have h1 := Gd_nx (show op 392 0 = some (.aload_n 3, 1) by decide +kernel) rfl h0
  have h2 := Gd_nx (show op 392 1 = some (.iconst 0, 1) by decide +kernel) (sK_ok rfl) h1
  have h3 := Gd_nx (show op 392 2 = some (.aload_n 0, 1) by decide +kernel) rfl h2
  have h4 := Gd_nx (show op 392 3 = some (.iload_n 1, 1) by decide +kernel) rfl h3
  have h5 := Gd_nx (show op 392 4 = some (.iload_n 2, 1) by decide +kernel) rfl h4
  rcases Gd_cl (show op 392 5 = some (.invokevirtual 23, 3) by decide +kernel) (call_vi' (k' := 2) (n' := 12) (nj := 3) (j := 174) (k9 := 20) (t := [(.inl 0), (.inr (.inr (some 726)))]) (as := [(.inr (.inr (some 0))), (.inl x1), (.inl x2)]) (by decide +kernel) rfl (by decide +kernel) rfl rfl rfl rfl rfl rfl (by decide +kernel) (by decide +kernel)) (by decide +kernel) (Or.inl (by decide +kernel)) (by decide +kernel) h5 with ⟨x, s, hD, hb⟩ | ⟨E, s, hD, ht⟩
  · have e := Gd_det H (b392 (Or.inl ⟨x, s, hD, rfl⟩))
    cases e
    exact Or.inl ⟨x, s, hD, rfl, rfl⟩
  · obtain ⟨e1, e2, e3⟩ := thr_k (by decide +kernel) (by decide +kernel) ht
    subst e1
    exact Or.inr ⟨E, hD, e2, e3⟩
theorem iw393 {x1 : Int} {σ s1 : Sg} {kx : Int} (H : Dd 393 [(.inr (.inr (some 0))), (.inl x1), (.inr (.inr (some 726)))] σ (.inl (some (.inl kx)), s1)) : (∃ (v : Int) (s : Sg), Dd 175 [(.inr (.inr (some 0))), (.inl x1)] σ (.inl (some (.inl v)), s) ∧ kx = 0 ∧ s1 = upS s 726 0 v) ∨ (∃ E : Nat, Dd 175 [(.inr (.inr (some 0))), (.inl x1)] σ (.inr E, s1) ∧ ¬ kx = 0 ∧ hnd 393 4 E = some kx) := by
  have h0 := Dd_inv (l := 4) (by decide +kernel) H
  have h1 := Gd_nx (show op 393 0 = some (.aload_n 2, 1) by decide +kernel) rfl h0
  have h2 := Gd_nx (show op 393 1 = some (.iconst 0, 1) by decide +kernel) (sK_ok rfl) h1
  have h3 := Gd_nx (show op 393 2 = some (.aload_n 0, 1) by decide +kernel) rfl h2
  have h4 := Gd_nx (show op 393 3 = some (.iload_n 1, 1) by decide +kernel) rfl h3
  rcases Gd_cl (show op 393 4 = some (.invokevirtual 26, 3) by decide +kernel) (call_vi' (k' := 1) (n' := 6) (nj := 2) (j := 175) (k9 := 20) (t := [(.inl 0), (.inr (.inr (some 726)))]) (as := [(.inr (.inr (some 0))), (.inl x1)]) (by decide +kernel) rfl (by decide +kernel) rfl rfl rfl rfl rfl rfl (by decide +kernel) (by decide +kernel)) (by decide +kernel) (Or.inl (by decide +kernel)) (by decide +kernel) h4 with ⟨x, s, hD, hb⟩ | ⟨E, s, hD, ht⟩
  · have e := Gd_det H (b393 (Or.inl ⟨x, s, hD, rfl⟩))
    cases e
    exact Or.inl ⟨x, s, hD, rfl, rfl⟩
  · obtain ⟨e1, e2, e3⟩ := thr_k (by decide +kernel) (by decide +kernel) ht
    subst e1
    exact Or.inr ⟨E, hD, e2, e3⟩
theorem iw394 {x1 : Int} {x2 : Int} {σ s1 : Sg} {kx : Int} (H : Dd 394 [(.inr (.inr (some 0))), (.inl x1), (.inl x2), (.inr (.inr (some 726)))] σ (.inl (some (.inl kx)), s1)) : (∃ (v : Int) (s : Sg), Dd 176 [(.inr (.inr (some 0))), (.inl x1), (.inl x2)] σ (.inl (some (.inl v)), s) ∧ kx = 0 ∧ s1 = upS s 726 0 v) ∨ (∃ E : Nat, Dd 176 [(.inr (.inr (some 0))), (.inl x1), (.inl x2)] σ (.inr E, s1) ∧ ¬ kx = 0 ∧ hnd 394 5 E = some kx) := by
  have h0 := Dd_inv (l := 5) (by decide +kernel) H
  have h1 := Gd_nx (show op 394 0 = some (.aload_n 3, 1) by decide +kernel) rfl h0
  have h2 := Gd_nx (show op 394 1 = some (.iconst 0, 1) by decide +kernel) (sK_ok rfl) h1
  have h3 := Gd_nx (show op 394 2 = some (.aload_n 0, 1) by decide +kernel) rfl h2
  have h4 := Gd_nx (show op 394 3 = some (.iload_n 1, 1) by decide +kernel) rfl h3
  have h5 := Gd_nx (show op 394 4 = some (.iload_n 2, 1) by decide +kernel) rfl h4
  rcases Gd_cl (show op 394 5 = some (.invokevirtual 30, 3) by decide +kernel) (call_vi' (k' := 2) (n' := 12) (nj := 3) (j := 176) (k9 := 20) (t := [(.inl 0), (.inr (.inr (some 726)))]) (as := [(.inr (.inr (some 0))), (.inl x1), (.inl x2)]) (by decide +kernel) rfl (by decide +kernel) rfl rfl rfl rfl rfl rfl (by decide +kernel) (by decide +kernel)) (by decide +kernel) (Or.inl (by decide +kernel)) (by decide +kernel) h5 with ⟨x, s, hD, hb⟩ | ⟨E, s, hD, ht⟩
  · have e := Gd_det H (b394 (Or.inl ⟨x, s, hD, rfl⟩))
    cases e
    exact Or.inl ⟨x, s, hD, rfl, rfl⟩
  · obtain ⟨e1, e2, e3⟩ := thr_k (by decide +kernel) (by decide +kernel) ht
    subst e1
    exact Or.inr ⟨E, hD, e2, e3⟩
theorem iw395 {x1 : Int} {x2 : Int} {σ s1 : Sg} {kx : Int} (H : Dd 395 [(.inr (.inr (some 0))), (.inl x1), (.inl x2), (.inr (.inr (some 726)))] σ (.inl (some (.inl kx)), s1)) : (∃ (v : Int) (s : Sg), Dd 177 [(.inr (.inr (some 0))), (.inl x1), (.inl x2)] σ (.inl (some (.inl v)), s) ∧ kx = 0 ∧ s1 = upS s 726 0 v) ∨ (∃ E : Nat, Dd 177 [(.inr (.inr (some 0))), (.inl x1), (.inl x2)] σ (.inr E, s1) ∧ ¬ kx = 0 ∧ hnd 395 5 E = some kx) := by
  have h0 := Dd_inv (l := 5) (by decide +kernel) H
  have h1 := Gd_nx (show op 395 0 = some (.aload_n 3, 1) by decide +kernel) rfl h0
  have h2 := Gd_nx (show op 395 1 = some (.iconst 0, 1) by decide +kernel) (sK_ok rfl) h1
  have h3 := Gd_nx (show op 395 2 = some (.aload_n 0, 1) by decide +kernel) rfl h2
  have h4 := Gd_nx (show op 395 3 = some (.iload_n 1, 1) by decide +kernel) rfl h3
  have h5 := Gd_nx (show op 395 4 = some (.iload_n 2, 1) by decide +kernel) rfl h4
  rcases Gd_cl (show op 395 5 = some (.invokevirtual 33, 3) by decide +kernel) (call_vi' (k' := 2) (n' := 12) (nj := 3) (j := 177) (k9 := 20) (t := [(.inl 0), (.inr (.inr (some 726)))]) (as := [(.inr (.inr (some 0))), (.inl x1), (.inl x2)]) (by decide +kernel) rfl (by decide +kernel) rfl rfl rfl rfl rfl rfl (by decide +kernel) (by decide +kernel)) (by decide +kernel) (Or.inl (by decide +kernel)) (by decide +kernel) h5 with ⟨x, s, hD, hb⟩ | ⟨E, s, hD, ht⟩
  · have e := Gd_det H (b395 (Or.inl ⟨x, s, hD, rfl⟩))
    cases e
    exact Or.inl ⟨x, s, hD, rfl, rfl⟩
  · obtain ⟨e1, e2, e3⟩ := thr_k (by decide +kernel) (by decide +kernel) ht
    subst e1
    exact Or.inr ⟨E, hD, e2, e3⟩
theorem iw396 {x1 : Int} {x2 : Int} {x3 : Int} {x4 : Int} {σ s1 : Sg} {kx : Int} (H : Dd 396 [(.inr (.inr (some 0))), (.inl x1), (.inl x2), (.inl x3), (.inl x4), (.inr (.inr (some 726)))] σ (.inl (some (.inl kx)), s1)) : (∃ (v : Int) (s : Sg), Dd 178 [(.inr (.inr (some 0))), (.inl x1), (.inl x2), (.inl x3), (.inl x4)] σ (.inl (some (.inl v)), s) ∧ kx = 0 ∧ s1 = upS s 726 0 v) ∨ (∃ E : Nat, Dd 178 [(.inr (.inr (some 0))), (.inl x1), (.inl x2), (.inl x3), (.inl x4)] σ (.inr E, s1) ∧ ¬ kx = 0 ∧ hnd 396 9 E = some kx) := by
  have h0 := Dd_inv (l := 7) (by decide +kernel) H
  have h1 := Gd_nx (show op 396 0 = some (.aload 5, 2) by decide +kernel) rfl h0
  have h2 := Gd_nx (show op 396 2 = some (.iconst 0, 1) by decide +kernel) (sK_ok rfl) h1
  have h3 := Gd_nx (show op 396 3 = some (.aload_n 0, 1) by decide +kernel) rfl h2
  have h4 := Gd_nx (show op 396 4 = some (.iload_n 1, 1) by decide +kernel) rfl h3
  have h5 := Gd_nx (show op 396 5 = some (.iload_n 2, 1) by decide +kernel) rfl h4
  have h6 := Gd_nx (show op 396 6 = some (.iload_n 3, 1) by decide +kernel) rfl h5
  have h7 := Gd_nx (show op 396 7 = some (.iload 4, 2) by decide +kernel) rfl h6
  rcases Gd_cl (show op 396 9 = some (.invokevirtual 36, 3) by decide +kernel) (call_vi' (k' := 4) (n' := 24) (nj := 5) (j := 178) (k9 := 20) (t := [(.inl 0), (.inr (.inr (some 726)))]) (as := [(.inr (.inr (some 0))), (.inl x1), (.inl x2), (.inl x3), (.inl x4)]) (by decide +kernel) rfl (by decide +kernel) rfl rfl rfl rfl rfl rfl (by decide +kernel) (by decide +kernel)) (by decide +kernel) (Or.inl (by decide +kernel)) (by decide +kernel) h7 with ⟨x, s, hD, hb⟩ | ⟨E, s, hD, ht⟩
  · have e := Gd_det H (b396 (Or.inl ⟨x, s, hD, rfl⟩))
    cases e
    exact Or.inl ⟨x, s, hD, rfl, rfl⟩
  · obtain ⟨e1, e2, e3⟩ := thr_k (by decide +kernel) (by decide +kernel) ht
    subst e1
    exact Or.inr ⟨E, hD, e2, e3⟩
theorem iw397 {x1 : Int} {x2 : Int} {x3 : Int} {σ s1 : Sg} {kx : Int} (H : Dd 397 [(.inr (.inr (some 0))), (.inl x1), (.inl x2), (.inl x3), (.inr (.inr (some 726)))] σ (.inl (some (.inl kx)), s1)) : (∃ (v : Int) (s : Sg), Dd 179 [(.inr (.inr (some 0))), (.inl x1), (.inl x2), (.inl x3)] σ (.inl (some (.inl v)), s) ∧ kx = 0 ∧ s1 = upS s 726 0 v) ∨ (∃ E : Nat, Dd 179 [(.inr (.inr (some 0))), (.inl x1), (.inl x2), (.inl x3)] σ (.inr E, s1) ∧ ¬ kx = 0 ∧ hnd 397 7 E = some kx) := by
  have h0 := Dd_inv (l := 6) (by decide +kernel) H
  have h1 := Gd_nx (show op 397 0 = some (.aload 4, 2) by decide +kernel) rfl h0
  have h2 := Gd_nx (show op 397 2 = some (.iconst 0, 1) by decide +kernel) (sK_ok rfl) h1
  have h3 := Gd_nx (show op 397 3 = some (.aload_n 0, 1) by decide +kernel) rfl h2
  have h4 := Gd_nx (show op 397 4 = some (.iload_n 1, 1) by decide +kernel) rfl h3
  have h5 := Gd_nx (show op 397 5 = some (.iload_n 2, 1) by decide +kernel) rfl h4
  have h6 := Gd_nx (show op 397 6 = some (.iload_n 3, 1) by decide +kernel) rfl h5
  rcases Gd_cl (show op 397 7 = some (.invokevirtual 40, 3) by decide +kernel) (call_vi' (k' := 3) (n' := 18) (nj := 4) (j := 179) (k9 := 20) (t := [(.inl 0), (.inr (.inr (some 726)))]) (as := [(.inr (.inr (some 0))), (.inl x1), (.inl x2), (.inl x3)]) (by decide +kernel) rfl (by decide +kernel) rfl rfl rfl rfl rfl rfl (by decide +kernel) (by decide +kernel)) (by decide +kernel) (Or.inl (by decide +kernel)) (by decide +kernel) h6 with ⟨x, s, hD, hb⟩ | ⟨E, s, hD, ht⟩
  · have e := Gd_det H (b397 (Or.inl ⟨x, s, hD, rfl⟩))
    cases e
    exact Or.inl ⟨x, s, hD, rfl, rfl⟩
  · obtain ⟨e1, e2, e3⟩ := thr_k (by decide +kernel) (by decide +kernel) ht
    subst e1
    exact Or.inr ⟨E, hD, e2, e3⟩
theorem iw398 {x1 : Int} {x2 : Int} {σ s1 : Sg} {kx : Int} (H : Dd 398 [(.inr (.inr (some 0))), (.inl x1), (.inl x2), (.inr (.inr (some 726)))] σ (.inl (some (.inl kx)), s1)) : (∃ (v : Int) (s : Sg), Dd 180 [(.inr (.inr (some 0))), (.inl x1), (.inl x2)] σ (.inl (some (.inl v)), s) ∧ kx = 0 ∧ s1 = upS s 726 0 v) ∨ (∃ E : Nat, Dd 180 [(.inr (.inr (some 0))), (.inl x1), (.inl x2)] σ (.inr E, s1) ∧ ¬ kx = 0 ∧ hnd 398 5 E = some kx) := by
  have h0 := Dd_inv (l := 5) (by decide +kernel) H
  have h1 := Gd_nx (show op 398 0 = some (.aload_n 3, 1) by decide +kernel) rfl h0
  have h2 := Gd_nx (show op 398 1 = some (.iconst 0, 1) by decide +kernel) (sK_ok rfl) h1
  have h3 := Gd_nx (show op 398 2 = some (.aload_n 0, 1) by decide +kernel) rfl h2
  have h4 := Gd_nx (show op 398 3 = some (.iload_n 1, 1) by decide +kernel) rfl h3
  have h5 := Gd_nx (show op 398 4 = some (.iload_n 2, 1) by decide +kernel) rfl h4
  rcases Gd_cl (show op 398 5 = some (.invokevirtual 43, 3) by decide +kernel) (call_vi' (k' := 2) (n' := 12) (nj := 3) (j := 180) (k9 := 20) (t := [(.inl 0), (.inr (.inr (some 726)))]) (as := [(.inr (.inr (some 0))), (.inl x1), (.inl x2)]) (by decide +kernel) rfl (by decide +kernel) rfl rfl rfl rfl rfl rfl (by decide +kernel) (by decide +kernel)) (by decide +kernel) (Or.inl (by decide +kernel)) (by decide +kernel) h5 with ⟨x, s, hD, hb⟩ | ⟨E, s, hD, ht⟩
  · have e := Gd_det H (b398 (Or.inl ⟨x, s, hD, rfl⟩))
    cases e
    exact Or.inl ⟨x, s, hD, rfl, rfl⟩
  · obtain ⟨e1, e2, e3⟩ := thr_k (by decide +kernel) (by decide +kernel) ht
    subst e1
    exact Or.inr ⟨E, hD, e2, e3⟩
theorem iw399 {x1 : Int} {x2 : Int} {x3 : Int} {σ s1 : Sg} {kx : Int} (H : Dd 399 [(.inr (.inr (some 0))), (.inl x1), (.inl x2), (.inl x3), (.inr (.inr (some 726)))] σ (.inl (some (.inl kx)), s1)) : (∃ (v : Int) (s : Sg), Dd 181 [(.inr (.inr (some 0))), (.inl x1), (.inl x2), (.inl x3)] σ (.inl (some (.inl v)), s) ∧ kx = 0 ∧ s1 = upS s 726 0 v) ∨ (∃ E : Nat, Dd 181 [(.inr (.inr (some 0))), (.inl x1), (.inl x2), (.inl x3)] σ (.inr E, s1) ∧ ¬ kx = 0 ∧ hnd 399 7 E = some kx) := by
  have h0 := Dd_inv (l := 6) (by decide +kernel) H
  have h1 := Gd_nx (show op 399 0 = some (.aload 4, 2) by decide +kernel) rfl h0
  have h2 := Gd_nx (show op 399 2 = some (.iconst 0, 1) by decide +kernel) (sK_ok rfl) h1
  have h3 := Gd_nx (show op 399 3 = some (.aload_n 0, 1) by decide +kernel) rfl h2
  have h4 := Gd_nx (show op 399 4 = some (.iload_n 1, 1) by decide +kernel) rfl h3
  have h5 := Gd_nx (show op 399 5 = some (.iload_n 2, 1) by decide +kernel) rfl h4
  have h6 := Gd_nx (show op 399 6 = some (.iload_n 3, 1) by decide +kernel) rfl h5
  rcases Gd_cl (show op 399 7 = some (.invokevirtual 46, 3) by decide +kernel) (call_vi' (k' := 4) (n' := 24) (nj := 4) (j := 181) (k9 := 20) (t := [(.inl 0), (.inr (.inr (some 726)))]) (as := [(.inr (.inr (some 0))), (.inl x1), (.inl x2), (.inl x3)]) (by decide +kernel) rfl (by decide +kernel) rfl rfl rfl rfl rfl rfl (by decide +kernel) (by decide +kernel)) (by decide +kernel) (Or.inl (by decide +kernel)) (by decide +kernel) h6 with ⟨x, s, hD, hb⟩ | ⟨E, s, hD, ht⟩
  · have e := Gd_det H (b399 (Or.inl ⟨x, s, hD, rfl⟩))
    cases e
    exact Or.inl ⟨x, s, hD, rfl, rfl⟩
  · obtain ⟨e1, e2, e3⟩ := thr_k (by decide +kernel) (by decide +kernel) ht
    subst e1
    exact Or.inr ⟨E, hD, e2, e3⟩
theorem iw400 {x1 : Int} {σ s1 : Sg} {kx : Int} (H : Dd 400 [(.inr (.inr (some 0))), (.inl x1), (.inr (.inr (some 726)))] σ (.inl (some (.inl kx)), s1)) : (∃ (v : Int) (s : Sg), Dd 182 [(.inr (.inr (some 0))), (.inl x1)] σ (.inl (some (.inl v)), s) ∧ kx = 0 ∧ s1 = upS s 726 0 v) ∨ (∃ E : Nat, Dd 182 [(.inr (.inr (some 0))), (.inl x1)] σ (.inr E, s1) ∧ ¬ kx = 0 ∧ hnd 400 4 E = some kx) := by
  have h0 := Dd_inv (l := 4) (by decide +kernel) H
  have h1 := Gd_nx (show op 400 0 = some (.aload_n 2, 1) by decide +kernel) rfl h0
  have h2 := Gd_nx (show op 400 1 = some (.iconst 0, 1) by decide +kernel) (sK_ok rfl) h1
  have h3 := Gd_nx (show op 400 2 = some (.aload_n 0, 1) by decide +kernel) rfl h2
  have h4 := Gd_nx (show op 400 3 = some (.iload_n 1, 1) by decide +kernel) rfl h3
  rcases Gd_cl (show op 400 4 = some (.invokevirtual 49, 3) by decide +kernel) (call_vi' (k' := 2) (n' := 12) (nj := 2) (j := 182) (k9 := 20) (t := [(.inl 0), (.inr (.inr (some 726)))]) (as := [(.inr (.inr (some 0))), (.inl x1)]) (by decide +kernel) rfl (by decide +kernel) rfl rfl rfl rfl rfl rfl (by decide +kernel) (by decide +kernel)) (by decide +kernel) (Or.inl (by decide +kernel)) (by decide +kernel) h4 with ⟨x, s, hD, hb⟩ | ⟨E, s, hD, ht⟩
  · have e := Gd_det H (b400 (Or.inl ⟨x, s, hD, rfl⟩))
    cases e
    exact Or.inl ⟨x, s, hD, rfl, rfl⟩
  · obtain ⟨e1, e2, e3⟩ := thr_k (by decide +kernel) (by decide +kernel) ht
    subst e1
    exact Or.inr ⟨E, hD, e2, e3⟩
theorem iw401 {x1 : Int} {x2 : Int} {σ s1 : Sg} {kx : Int} (H : Dd 401 [(.inr (.inr (some 0))), (.inl x1), (.inl x2), (.inr (.inr (some 726)))] σ (.inl (some (.inl kx)), s1)) : (∃ (v : Int) (s : Sg), Dd 183 [(.inr (.inr (some 0))), (.inl x1), (.inl x2)] σ (.inl (some (.inl v)), s) ∧ kx = 0 ∧ s1 = upS s 726 0 v) ∨ (∃ E : Nat, Dd 183 [(.inr (.inr (some 0))), (.inl x1), (.inl x2)] σ (.inr E, s1) ∧ ¬ kx = 0 ∧ hnd 401 5 E = some kx) := by
  have h0 := Dd_inv (l := 5) (by decide +kernel) H
  have h1 := Gd_nx (show op 401 0 = some (.aload_n 3, 1) by decide +kernel) rfl h0
  have h2 := Gd_nx (show op 401 1 = some (.iconst 0, 1) by decide +kernel) (sK_ok rfl) h1
  have h3 := Gd_nx (show op 401 2 = some (.aload_n 0, 1) by decide +kernel) rfl h2
  have h4 := Gd_nx (show op 401 3 = some (.iload_n 1, 1) by decide +kernel) rfl h3
  have h5 := Gd_nx (show op 401 4 = some (.iload_n 2, 1) by decide +kernel) rfl h4
  rcases Gd_cl (show op 401 5 = some (.invokevirtual 52, 3) by decide +kernel) (call_vi' (k' := 4) (n' := 24) (nj := 3) (j := 183) (k9 := 20) (t := [(.inl 0), (.inr (.inr (some 726)))]) (as := [(.inr (.inr (some 0))), (.inl x1), (.inl x2)]) (by decide +kernel) rfl (by decide +kernel) rfl rfl rfl rfl rfl rfl (by decide +kernel) (by decide +kernel)) (by decide +kernel) (Or.inl (by decide +kernel)) (by decide +kernel) h5 with ⟨x, s, hD, hb⟩ | ⟨E, s, hD, ht⟩
  · have e := Gd_det H (b401 (Or.inl ⟨x, s, hD, rfl⟩))
    cases e
    exact Or.inl ⟨x, s, hD, rfl, rfl⟩
  · obtain ⟨e1, e2, e3⟩ := thr_k (by decide +kernel) (by decide +kernel) ht
    subst e1
    exact Or.inr ⟨E, hD, e2, e3⟩
theorem iw402 {x1 : Int} {x2 : Int} {σ s1 : Sg} {kx : Int} (H : Dd 402 [(.inr (.inr (some 0))), (.inl x1), (.inl x2), (.inr (.inr (some 726)))] σ (.inl (some (.inl kx)), s1)) : (∃ (v : Int) (s : Sg), Dd 184 [(.inr (.inr (some 0))), (.inl x1), (.inl x2)] σ (.inl (some (.inl v)), s) ∧ kx = 0 ∧ s1 = upS s 726 0 (if v = 0 then 0 else 1) ∧ (v = 0 ∨ v = 1)) ∨ (∃ E : Nat, Dd 184 [(.inr (.inr (some 0))), (.inl x1), (.inl x2)] σ (.inr E, s1) ∧ ¬ kx = 0 ∧ hnd 402 5 E = some kx) := by
  have h0 := Dd_inv (l := 5) (by decide +kernel) H
  have h1 := Gd_nx (show op 402 0 = some (.aload_n 3, 1) by decide +kernel) rfl h0
  have h2 := Gd_nx (show op 402 1 = some (.iconst 0, 1) by decide +kernel) (sK_ok rfl) h1
  have h3 := Gd_nx (show op 402 2 = some (.aload_n 0, 1) by decide +kernel) rfl h2
  have h4 := Gd_nx (show op 402 3 = some (.iload_n 1, 1) by decide +kernel) rfl h3
  have h5 := Gd_nx (show op 402 4 = some (.iload_n 2, 1) by decide +kernel) rfl h4
  rcases Gd_cl (show op 402 5 = some (.invokevirtual 55, 3) by decide +kernel) (call_vi' (k' := 3) (n' := 18) (nj := 3) (j := 184) (k9 := 20) (t := [(.inl 0), (.inr (.inr (some 726)))]) (as := [(.inr (.inr (some 0))), (.inl x1), (.inl x2)]) (by decide +kernel) rfl (by decide +kernel) rfl rfl rfl rfl rfl rfl (by decide +kernel) (by decide +kernel)) (by decide +kernel) (Or.inr (by decide +kernel)) (by decide +kernel) h5 with ⟨x, s, hD, hb⟩ | ⟨E, s, hD, ht⟩
  · have e := Gd_det H (b402 (Or.inl ⟨x, s, hD, b402_16 ⟨by decide, rfl⟩⟩))
    cases e
    exact Or.inl ⟨x, s, hD, rfl, rfl, hb (by decide +kernel)⟩
  · obtain ⟨e1, e2, e3⟩ := thr_k (by decide +kernel) (by decide +kernel) ht
    subst e1
    exact Or.inr ⟨E, hD, e2, e3⟩
theorem iw403 {x1 : Int} {x2 : Int} {x3 : Int} {σ s1 : Sg} {kx : Int} (H : Dd 403 [(.inr (.inr (some 0))), (.inl x1), (.inl x2), (.inl x3), (.inr (.inr (some 726)))] σ (.inl (some (.inl kx)), s1)) : (∃ (v : Int) (s : Sg), Dd 185 [(.inr (.inr (some 0))), (.inl x1), (.inl x2), (.inl x3)] σ (.inl (some (.inl v)), s) ∧ kx = 0 ∧ s1 = upS s 726 0 v) ∨ (∃ E : Nat, Dd 185 [(.inr (.inr (some 0))), (.inl x1), (.inl x2), (.inl x3)] σ (.inr E, s1) ∧ ¬ kx = 0 ∧ hnd 403 7 E = some kx) := by
  have h0 := Dd_inv (l := 6) (by decide +kernel) H
  have h1 := Gd_nx (show op 403 0 = some (.aload 4, 2) by decide +kernel) rfl h0
  have h2 := Gd_nx (show op 403 2 = some (.iconst 0, 1) by decide +kernel) (sK_ok rfl) h1
  have h3 := Gd_nx (show op 403 3 = some (.aload_n 0, 1) by decide +kernel) rfl h2
  have h4 := Gd_nx (show op 403 4 = some (.iload_n 1, 1) by decide +kernel) rfl h3
  have h5 := Gd_nx (show op 403 5 = some (.iload_n 2, 1) by decide +kernel) rfl h4
  have h6 := Gd_nx (show op 403 6 = some (.iload_n 3, 1) by decide +kernel) rfl h5
  rcases Gd_cl (show op 403 7 = some (.invokevirtual 59, 3) by decide +kernel) (call_vi' (k' := 5) (n' := 30) (nj := 4) (j := 185) (k9 := 20) (t := [(.inl 0), (.inr (.inr (some 726)))]) (as := [(.inr (.inr (some 0))), (.inl x1), (.inl x2), (.inl x3)]) (by decide +kernel) rfl (by decide +kernel) rfl rfl rfl rfl rfl rfl (by decide +kernel) (by decide +kernel)) (by decide +kernel) (Or.inl (by decide +kernel)) (by decide +kernel) h6 with ⟨x, s, hD, hb⟩ | ⟨E, s, hD, ht⟩
  · have e := Gd_det H (b403 (Or.inl ⟨x, s, hD, rfl⟩))
    cases e
    exact Or.inl ⟨x, s, hD, rfl, rfl⟩
  · obtain ⟨e1, e2, e3⟩ := thr_k (by decide +kernel) (by decide +kernel) ht
    subst e1
    exact Or.inr ⟨E, hD, e2, e3⟩
theorem iw404 {x1 : Int} {x2 : Int} {x3 : Int} {x4 : Int} {x5 : Int} {σ s1 : Sg} {kx : Int} (H : Dd 404 [(.inr (.inr (some 0))), (.inl x1), (.inl x2), (.inl x3), (.inl x4), (.inl x5), (.inr (.inr (some 726)))] σ (.inl (some (.inl kx)), s1)) : (∃ (v : Int) (s : Sg), Dd 186 [(.inr (.inr (some 0))), (.inl x1), (.inl x2), (.inl x3), (.inl x4), (.inl x5)] σ (.inl (some (.inl v)), s) ∧ kx = 0 ∧ s1 = upS s 726 0 v) ∨ (∃ E : Nat, Dd 186 [(.inr (.inr (some 0))), (.inl x1), (.inl x2), (.inl x3), (.inl x4), (.inl x5)] σ (.inr E, s1) ∧ ¬ kx = 0 ∧ hnd 404 11 E = some kx) := by
  have h0 := Dd_inv (l := 8) (by decide +kernel) H
  have h1 := Gd_nx (show op 404 0 = some (.aload 6, 2) by decide +kernel) rfl h0
  have h2 := Gd_nx (show op 404 2 = some (.iconst 0, 1) by decide +kernel) (sK_ok rfl) h1
  have h3 := Gd_nx (show op 404 3 = some (.aload_n 0, 1) by decide +kernel) rfl h2
  have h4 := Gd_nx (show op 404 4 = some (.iload_n 1, 1) by decide +kernel) rfl h3
  have h5 := Gd_nx (show op 404 5 = some (.iload_n 2, 1) by decide +kernel) rfl h4
  have h6 := Gd_nx (show op 404 6 = some (.iload_n 3, 1) by decide +kernel) rfl h5
  have h7 := Gd_nx (show op 404 7 = some (.iload 4, 2) by decide +kernel) rfl h6
  have h8 := Gd_nx (show op 404 9 = some (.iload 5, 2) by decide +kernel) rfl h7
  rcases Gd_cl (show op 404 11 = some (.invokevirtual 63, 3) by decide +kernel) (call_vi' (k' := 6) (n' := 36) (nj := 6) (j := 186) (k9 := 20) (t := [(.inl 0), (.inr (.inr (some 726)))]) (as := [(.inr (.inr (some 0))), (.inl x1), (.inl x2), (.inl x3), (.inl x4), (.inl x5)]) (by decide +kernel) rfl (by decide +kernel) rfl rfl rfl rfl rfl rfl (by decide +kernel) (by decide +kernel)) (by decide +kernel) (Or.inl (by decide +kernel)) (by decide +kernel) h8 with ⟨x, s, hD, hb⟩ | ⟨E, s, hD, ht⟩
  · have e := Gd_det H (b404 (Or.inl ⟨x, s, hD, rfl⟩))
    cases e
    exact Or.inl ⟨x, s, hD, rfl, rfl⟩
  · obtain ⟨e1, e2, e3⟩ := thr_k (by decide +kernel) (by decide +kernel) ht
    subst e1
    exact Or.inr ⟨E, hD, e2, e3⟩
theorem iw405 {x1 : Int} {x2 : Int} {x3 : Int} {σ s1 : Sg} {kx : Int} (H : Dd 405 [(.inr (.inr (some 0))), (.inl x1), (.inl x2), (.inl x3), (.inr (.inr (some 726)))] σ (.inl (some (.inl kx)), s1)) : (∃ (v : Int) (s : Sg), Dd 188 [(.inr (.inr (some 0))), (.inl x1), (.inl x2), (.inl x3)] σ (.inl (some (.inl v)), s) ∧ kx = 0 ∧ s1 = upS s 726 0 v) ∨ (∃ E : Nat, Dd 188 [(.inr (.inr (some 0))), (.inl x1), (.inl x2), (.inl x3)] σ (.inr E, s1) ∧ ¬ kx = 0 ∧ hnd 405 7 E = some kx) := by
  have h0 := Dd_inv (l := 6) (by decide +kernel) H
  have h1 := Gd_nx (show op 405 0 = some (.aload 4, 2) by decide +kernel) rfl h0
  have h2 := Gd_nx (show op 405 2 = some (.iconst 0, 1) by decide +kernel) (sK_ok rfl) h1
  have h3 := Gd_nx (show op 405 3 = some (.aload_n 0, 1) by decide +kernel) rfl h2
  have h4 := Gd_nx (show op 405 4 = some (.iload_n 1, 1) by decide +kernel) rfl h3
  have h5 := Gd_nx (show op 405 5 = some (.iload_n 2, 1) by decide +kernel) rfl h4
  have h6 := Gd_nx (show op 405 6 = some (.iload_n 3, 1) by decide +kernel) rfl h5
  rcases Gd_cl (show op 405 7 = some (.invokevirtual 67, 3) by decide +kernel) (call_vi' (k' := 2) (n' := 12) (nj := 4) (j := 188) (k9 := 20) (t := [(.inl 0), (.inr (.inr (some 726)))]) (as := [(.inr (.inr (some 0))), (.inl x1), (.inl x2), (.inl x3)]) (by decide +kernel) rfl (by decide +kernel) rfl rfl rfl rfl rfl rfl (by decide +kernel) (by decide +kernel)) (by decide +kernel) (Or.inl (by decide +kernel)) (by decide +kernel) h6 with ⟨x, s, hD, hb⟩ | ⟨E, s, hD, ht⟩
  · have e := Gd_det H (b405 (Or.inl ⟨x, s, hD, rfl⟩))
    cases e
    exact Or.inl ⟨x, s, hD, rfl, rfl⟩
  · obtain ⟨e1, e2, e3⟩ := thr_k (by decide +kernel) (by decide +kernel) ht
    subst e1
    exact Or.inr ⟨E, hD, e2, e3⟩
theorem iw406 {x1 : Int} {x2 : Int} {σ s1 : Sg} {kx : Int} (H : Dd 406 [(.inr (.inr (some 0))), (.inl x1), (.inl x2), (.inr (.inr (some 726)))] σ (.inl (some (.inl kx)), s1)) : (∃ (v : Int) (s : Sg), Dd 189 [(.inr (.inr (some 0))), (.inl x1), (.inl x2)] σ (.inl (some (.inl v)), s) ∧ kx = 0 ∧ s1 = upS s 726 0 v) ∨ (∃ E : Nat, Dd 189 [(.inr (.inr (some 0))), (.inl x1), (.inl x2)] σ (.inr E, s1) ∧ ¬ kx = 0 ∧ hnd 406 5 E = some kx) := by
  have h0 := Dd_inv (l := 5) (by decide +kernel) H
  have h1 := Gd_nx (show op 406 0 = some (.aload_n 3, 1) by decide +kernel) rfl h0
  have h2 := Gd_nx (show op 406 1 = some (.iconst 0, 1) by decide +kernel) (sK_ok rfl) h1
  have h3 := Gd_nx (show op 406 2 = some (.aload_n 0, 1) by decide +kernel) rfl h2
  have h4 := Gd_nx (show op 406 3 = some (.iload_n 1, 1) by decide +kernel) rfl h3
  have h5 := Gd_nx (show op 406 4 = some (.iload_n 2, 1) by decide +kernel) rfl h4
  rcases Gd_cl (show op 406 5 = some (.invokevirtual 71, 3) by decide +kernel) (call_vi' (k' := 2) (n' := 12) (nj := 3) (j := 189) (k9 := 20) (t := [(.inl 0), (.inr (.inr (some 726)))]) (as := [(.inr (.inr (some 0))), (.inl x1), (.inl x2)]) (by decide +kernel) rfl (by decide +kernel) rfl rfl rfl rfl rfl rfl (by decide +kernel) (by decide +kernel)) (by decide +kernel) (Or.inl (by decide +kernel)) (by decide +kernel) h5 with ⟨x, s, hD, hb⟩ | ⟨E, s, hD, ht⟩
  · have e := Gd_det H (b406 (Or.inl ⟨x, s, hD, rfl⟩))
    cases e
    exact Or.inl ⟨x, s, hD, rfl, rfl⟩
  · obtain ⟨e1, e2, e3⟩ := thr_k (by decide +kernel) (by decide +kernel) ht
    subst e1
    exact Or.inr ⟨E, hD, e2, e3⟩
theorem iw407 {x1 : Int} {σ s1 : Sg} {kx : Int} (H : Dd 407 [(.inr (.inr (some 0))), (.inl x1), (.inr (.inr (some 726)))] σ (.inl (some (.inl kx)), s1)) : (∃ (v : Int) (s : Sg), Dd 190 [(.inr (.inr (some 0))), (.inl x1)] σ (.inl (some (.inl v)), s) ∧ kx = 0 ∧ s1 = upS s 726 0 v) ∨ (∃ E : Nat, Dd 190 [(.inr (.inr (some 0))), (.inl x1)] σ (.inr E, s1) ∧ ¬ kx = 0 ∧ hnd 407 4 E = some kx) := by
  have h0 := Dd_inv (l := 4) (by decide +kernel) H
  have h1 := Gd_nx (show op 407 0 = some (.aload_n 2, 1) by decide +kernel) rfl h0
  have h2 := Gd_nx (show op 407 1 = some (.iconst 0, 1) by decide +kernel) (sK_ok rfl) h1
  have h3 := Gd_nx (show op 407 2 = some (.aload_n 0, 1) by decide +kernel) rfl h2
  have h4 := Gd_nx (show op 407 3 = some (.iload_n 1, 1) by decide +kernel) rfl h3
  rcases Gd_cl (show op 407 4 = some (.invokevirtual 74, 3) by decide +kernel) (call_vi' (k' := 1) (n' := 6) (nj := 2) (j := 190) (k9 := 20) (t := [(.inl 0), (.inr (.inr (some 726)))]) (as := [(.inr (.inr (some 0))), (.inl x1)]) (by decide +kernel) rfl (by decide +kernel) rfl rfl rfl rfl rfl rfl (by decide +kernel) (by decide +kernel)) (by decide +kernel) (Or.inl (by decide +kernel)) (by decide +kernel) h4 with ⟨x, s, hD, hb⟩ | ⟨E, s, hD, ht⟩
  · have e := Gd_det H (b407 (Or.inl ⟨x, s, hD, rfl⟩))
    cases e
    exact Or.inl ⟨x, s, hD, rfl, rfl⟩
  · obtain ⟨e1, e2, e3⟩ := thr_k (by decide +kernel) (by decide +kernel) ht
    subst e1
    exact Or.inr ⟨E, hD, e2, e3⟩
theorem iw408 {x1 : Int} {x2 : Int} {x3 : Int} {σ s1 : Sg} {kx : Int} (H : Dd 408 [(.inr (.inr (some 0))), (.inl x1), (.inl x2), (.inl x3), (.inr (.inr (some 726)))] σ (.inl (some (.inl kx)), s1)) : (∃ (v : Int) (s : Sg), Dd 191 [(.inr (.inr (some 0))), (.inl x1), (.inl x2), (.inl x3)] σ (.inl (some (.inl v)), s) ∧ kx = 0 ∧ s1 = upS s 726 0 v) ∨ (∃ E : Nat, Dd 191 [(.inr (.inr (some 0))), (.inl x1), (.inl x2), (.inl x3)] σ (.inr E, s1) ∧ ¬ kx = 0 ∧ hnd 408 7 E = some kx) := by
  have h0 := Dd_inv (l := 6) (by decide +kernel) H
  have h1 := Gd_nx (show op 408 0 = some (.aload 4, 2) by decide +kernel) rfl h0
  have h2 := Gd_nx (show op 408 2 = some (.iconst 0, 1) by decide +kernel) (sK_ok rfl) h1
  have h3 := Gd_nx (show op 408 3 = some (.aload_n 0, 1) by decide +kernel) rfl h2
  have h4 := Gd_nx (show op 408 4 = some (.iload_n 1, 1) by decide +kernel) rfl h3
  have h5 := Gd_nx (show op 408 5 = some (.iload_n 2, 1) by decide +kernel) rfl h4
  have h6 := Gd_nx (show op 408 6 = some (.iload_n 3, 1) by decide +kernel) rfl h5
  rcases Gd_cl (show op 408 7 = some (.invokevirtual 77, 3) by decide +kernel) (call_vi' (k' := 3) (n' := 18) (nj := 4) (j := 191) (k9 := 20) (t := [(.inl 0), (.inr (.inr (some 726)))]) (as := [(.inr (.inr (some 0))), (.inl x1), (.inl x2), (.inl x3)]) (by decide +kernel) rfl (by decide +kernel) rfl rfl rfl rfl rfl rfl (by decide +kernel) (by decide +kernel)) (by decide +kernel) (Or.inl (by decide +kernel)) (by decide +kernel) h6 with ⟨x, s, hD, hb⟩ | ⟨E, s, hD, ht⟩
  · have e := Gd_det H (b408 (Or.inl ⟨x, s, hD, rfl⟩))
    cases e
    exact Or.inl ⟨x, s, hD, rfl, rfl⟩
  · obtain ⟨e1, e2, e3⟩ := thr_k (by decide +kernel) (by decide +kernel) ht
    subst e1
    exact Or.inr ⟨E, hD, e2, e3⟩
theorem iw409 {x1 : Int} {x2 : Int} {σ s1 : Sg} {kx : Int} (H : Dd 409 [(.inr (.inr (some 0))), (.inl x1), (.inl x2), (.inr (.inr (some 726)))] σ (.inl (some (.inl kx)), s1)) : (∃ (v : Int) (s : Sg), Dd 192 [(.inr (.inr (some 0))), (.inl x1), (.inl x2)] σ (.inl (some (.inl v)), s) ∧ kx = 0 ∧ s1 = upS s 726 0 v) ∨ (∃ E : Nat, Dd 192 [(.inr (.inr (some 0))), (.inl x1), (.inl x2)] σ (.inr E, s1) ∧ ¬ kx = 0 ∧ hnd 409 5 E = some kx) := by
  have h0 := Dd_inv (l := 5) (by decide +kernel) H
  have h1 := Gd_nx (show op 409 0 = some (.aload_n 3, 1) by decide +kernel) rfl h0
  have h2 := Gd_nx (show op 409 1 = some (.iconst 0, 1) by decide +kernel) (sK_ok rfl) h1
  have h3 := Gd_nx (show op 409 2 = some (.aload_n 0, 1) by decide +kernel) rfl h2
  have h4 := Gd_nx (show op 409 3 = some (.iload_n 1, 1) by decide +kernel) rfl h3
  have h5 := Gd_nx (show op 409 4 = some (.iload_n 2, 1) by decide +kernel) rfl h4
  rcases Gd_cl (show op 409 5 = some (.invokevirtual 80, 3) by decide +kernel) (call_vi' (k' := 2) (n' := 12) (nj := 3) (j := 192) (k9 := 20) (t := [(.inl 0), (.inr (.inr (some 726)))]) (as := [(.inr (.inr (some 0))), (.inl x1), (.inl x2)]) (by decide +kernel) rfl (by decide +kernel) rfl rfl rfl rfl rfl rfl (by decide +kernel) (by decide +kernel)) (by decide +kernel) (Or.inl (by decide +kernel)) (by decide +kernel) h5 with ⟨x, s, hD, hb⟩ | ⟨E, s, hD, ht⟩
  · have e := Gd_det H (b409 (Or.inl ⟨x, s, hD, rfl⟩))
    cases e
    exact Or.inl ⟨x, s, hD, rfl, rfl⟩
  · obtain ⟨e1, e2, e3⟩ := thr_k (by decide +kernel) (by decide +kernel) ht
    subst e1
    exact Or.inr ⟨E, hD, e2, e3⟩
theorem iw410 {x1 : Int} {x2 : Int} {σ s1 : Sg} {kx : Int} (H : Dd 410 [(.inr (.inr (some 0))), (.inl x1), (.inl x2), (.inr (.inr (some 726)))] σ (.inl (some (.inl kx)), s1)) : (∃ (v : Int) (s : Sg), Dd 193 [(.inr (.inr (some 0))), (.inl x1), (.inl x2)] σ (.inl (some (.inl v)), s) ∧ kx = 0 ∧ s1 = upS s 726 0 (if v = 0 then 0 else 1) ∧ (v = 0 ∨ v = 1)) ∨ (∃ E : Nat, Dd 193 [(.inr (.inr (some 0))), (.inl x1), (.inl x2)] σ (.inr E, s1) ∧ ¬ kx = 0 ∧ hnd 410 5 E = some kx) := by
  have h0 := Dd_inv (l := 5) (by decide +kernel) H
  have h1 := Gd_nx (show op 410 0 = some (.aload_n 3, 1) by decide +kernel) rfl h0
  have h2 := Gd_nx (show op 410 1 = some (.iconst 0, 1) by decide +kernel) (sK_ok rfl) h1
  have h3 := Gd_nx (show op 410 2 = some (.aload_n 0, 1) by decide +kernel) rfl h2
  have h4 := Gd_nx (show op 410 3 = some (.iload_n 1, 1) by decide +kernel) rfl h3
  have h5 := Gd_nx (show op 410 4 = some (.iload_n 2, 1) by decide +kernel) rfl h4
  rcases Gd_cl (show op 410 5 = some (.invokevirtual 83, 3) by decide +kernel) (call_vi' (k' := 2) (n' := 12) (nj := 3) (j := 193) (k9 := 20) (t := [(.inl 0), (.inr (.inr (some 726)))]) (as := [(.inr (.inr (some 0))), (.inl x1), (.inl x2)]) (by decide +kernel) rfl (by decide +kernel) rfl rfl rfl rfl rfl rfl (by decide +kernel) (by decide +kernel)) (by decide +kernel) (Or.inr (by decide +kernel)) (by decide +kernel) h5 with ⟨x, s, hD, hb⟩ | ⟨E, s, hD, ht⟩
  · have e := Gd_det H (b410 (Or.inl ⟨x, s, hD, b410_16 ⟨by decide, rfl⟩⟩))
    cases e
    exact Or.inl ⟨x, s, hD, rfl, rfl, hb (by decide +kernel)⟩
  · obtain ⟨e1, e2, e3⟩ := thr_k (by decide +kernel) (by decide +kernel) ht
    subst e1
    exact Or.inr ⟨E, hD, e2, e3⟩
theorem iw411 {x1 : Int} {x2 : Int} {σ s1 : Sg} {kx : Int} (H : Dd 411 [(.inr (.inr (some 0))), (.inl x1), (.inl x2), (.inr (.inr (some 726)))] σ (.inl (some (.inl kx)), s1)) : (∃ (v : Int) (s : Sg), Dd 194 [(.inr (.inr (some 0))), (.inl x1), (.inl x2)] σ (.inl (some (.inl v)), s) ∧ kx = 0 ∧ s1 = upS s 726 0 v) ∨ (∃ E : Nat, Dd 194 [(.inr (.inr (some 0))), (.inl x1), (.inl x2)] σ (.inr E, s1) ∧ ¬ kx = 0 ∧ hnd 411 5 E = some kx) := by
  have h0 := Dd_inv (l := 5) (by decide +kernel) H
  have h1 := Gd_nx (show op 411 0 = some (.aload_n 3, 1) by decide +kernel) rfl h0
  have h2 := Gd_nx (show op 411 1 = some (.iconst 0, 1) by decide +kernel) (sK_ok rfl) h1
  have h3 := Gd_nx (show op 411 2 = some (.aload_n 0, 1) by decide +kernel) rfl h2
  have h4 := Gd_nx (show op 411 3 = some (.iload_n 1, 1) by decide +kernel) rfl h3
  have h5 := Gd_nx (show op 411 4 = some (.iload_n 2, 1) by decide +kernel) rfl h4
  rcases Gd_cl (show op 411 5 = some (.invokevirtual 86, 3) by decide +kernel) (call_vi' (k' := 2) (n' := 12) (nj := 3) (j := 194) (k9 := 20) (t := [(.inl 0), (.inr (.inr (some 726)))]) (as := [(.inr (.inr (some 0))), (.inl x1), (.inl x2)]) (by decide +kernel) rfl (by decide +kernel) rfl rfl rfl rfl rfl rfl (by decide +kernel) (by decide +kernel)) (by decide +kernel) (Or.inl (by decide +kernel)) (by decide +kernel) h5 with ⟨x, s, hD, hb⟩ | ⟨E, s, hD, ht⟩
  · have e := Gd_det H (b411 (Or.inl ⟨x, s, hD, rfl⟩))
    cases e
    exact Or.inl ⟨x, s, hD, rfl, rfl⟩
  · obtain ⟨e1, e2, e3⟩ := thr_k (by decide +kernel) (by decide +kernel) ht
    subst e1
    exact Or.inr ⟨E, hD, e2, e3⟩
theorem iw412 {x1 : Int} {x2 : Int} {x3 : Int} {σ s1 : Sg} {kx : Int} (H : Dd 412 [(.inr (.inr (some 0))), (.inl x1), (.inl x2), (.inl x3), (.inr (.inr (some 726)))] σ (.inl (some (.inl kx)), s1)) : (∃ (v : Int) (s : Sg), Dd 195 [(.inr (.inr (some 0))), (.inl x1), (.inl x2), (.inl x3)] σ (.inl (some (.inl v)), s) ∧ kx = 0 ∧ s1 = upS s 726 0 v) ∨ (∃ E : Nat, Dd 195 [(.inr (.inr (some 0))), (.inl x1), (.inl x2), (.inl x3)] σ (.inr E, s1) ∧ ¬ kx = 0 ∧ hnd 412 7 E = some kx) := by
  have h0 := Dd_inv (l := 6) (by decide +kernel) H
  have h1 := Gd_nx (show op 412 0 = some (.aload 4, 2) by decide +kernel) rfl h0
  have h2 := Gd_nx (show op 412 2 = some (.iconst 0, 1) by decide +kernel) (sK_ok rfl) h1
  have h3 := Gd_nx (show op 412 3 = some (.aload_n 0, 1) by decide +kernel) rfl h2
  have h4 := Gd_nx (show op 412 4 = some (.iload_n 1, 1) by decide +kernel) rfl h3
  have h5 := Gd_nx (show op 412 5 = some (.iload_n 2, 1) by decide +kernel) rfl h4
  have h6 := Gd_nx (show op 412 6 = some (.iload_n 3, 1) by decide +kernel) rfl h5
  rcases Gd_cl (show op 412 7 = some (.invokevirtual 89, 3) by decide +kernel) (call_vi' (k' := 4) (n' := 24) (nj := 4) (j := 195) (k9 := 20) (t := [(.inl 0), (.inr (.inr (some 726)))]) (as := [(.inr (.inr (some 0))), (.inl x1), (.inl x2), (.inl x3)]) (by decide +kernel) rfl (by decide +kernel) rfl rfl rfl rfl rfl rfl (by decide +kernel) (by decide +kernel)) (by decide +kernel) (Or.inl (by decide +kernel)) (by decide +kernel) h6 with ⟨x, s, hD, hb⟩ | ⟨E, s, hD, ht⟩
  · have e := Gd_det H (b412 (Or.inl ⟨x, s, hD, rfl⟩))
    cases e
    exact Or.inl ⟨x, s, hD, rfl, rfl⟩
  · obtain ⟨e1, e2, e3⟩ := thr_k (by decide +kernel) (by decide +kernel) ht
    subst e1
    exact Or.inr ⟨E, hD, e2, e3⟩
theorem iw413 {x1 : Int} {σ s1 : Sg} {kx : Int} (H : Dd 413 [(.inr (.inr (some 0))), (.inl x1), (.inr (.inr (some 726)))] σ (.inl (some (.inl kx)), s1)) : (∃ (v : Int) (s : Sg), Dd 196 [(.inr (.inr (some 0))), (.inl x1)] σ (.inl (some (.inl v)), s) ∧ kx = 0 ∧ s1 = upS s 726 0 v) ∨ (∃ E : Nat, Dd 196 [(.inr (.inr (some 0))), (.inl x1)] σ (.inr E, s1) ∧ ¬ kx = 0 ∧ hnd 413 4 E = some kx) := by
  have h0 := Dd_inv (l := 4) (by decide +kernel) H
  have h1 := Gd_nx (show op 413 0 = some (.aload_n 2, 1) by decide +kernel) rfl h0
  have h2 := Gd_nx (show op 413 1 = some (.iconst 0, 1) by decide +kernel) (sK_ok rfl) h1
  have h3 := Gd_nx (show op 413 2 = some (.aload_n 0, 1) by decide +kernel) rfl h2
  have h4 := Gd_nx (show op 413 3 = some (.iload_n 1, 1) by decide +kernel) rfl h3
  rcases Gd_cl (show op 413 4 = some (.invokevirtual 92, 3) by decide +kernel) (call_vi' (k' := 1) (n' := 6) (nj := 2) (j := 196) (k9 := 20) (t := [(.inl 0), (.inr (.inr (some 726)))]) (as := [(.inr (.inr (some 0))), (.inl x1)]) (by decide +kernel) rfl (by decide +kernel) rfl rfl rfl rfl rfl rfl (by decide +kernel) (by decide +kernel)) (by decide +kernel) (Or.inl (by decide +kernel)) (by decide +kernel) h4 with ⟨x, s, hD, hb⟩ | ⟨E, s, hD, ht⟩
  · have e := Gd_det H (b413 (Or.inl ⟨x, s, hD, rfl⟩))
    cases e
    exact Or.inl ⟨x, s, hD, rfl, rfl⟩
  · obtain ⟨e1, e2, e3⟩ := thr_k (by decide +kernel) (by decide +kernel) ht
    subst e1
    exact Or.inr ⟨E, hD, e2, e3⟩
theorem iw414 {x1 : Int} {x2 : Int} {x3 : Int} {σ s1 : Sg} {kx : Int} (H : Dd 414 [(.inr (.inr (some 0))), (.inl x1), (.inl x2), (.inl x3), (.inr (.inr (some 726)))] σ (.inl (some (.inl kx)), s1)) : (∃ (v : Int) (s : Sg), Dd 197 [(.inr (.inr (some 0))), (.inl x1), (.inl x2), (.inl x3)] σ (.inl (some (.inl v)), s) ∧ kx = 0 ∧ s1 = upS s 726 0 v) ∨ (∃ E : Nat, Dd 197 [(.inr (.inr (some 0))), (.inl x1), (.inl x2), (.inl x3)] σ (.inr E, s1) ∧ ¬ kx = 0 ∧ hnd 414 7 E = some kx) := by
  have h0 := Dd_inv (l := 6) (by decide +kernel) H
  have h1 := Gd_nx (show op 414 0 = some (.aload 4, 2) by decide +kernel) rfl h0
  have h2 := Gd_nx (show op 414 2 = some (.iconst 0, 1) by decide +kernel) (sK_ok rfl) h1
  have h3 := Gd_nx (show op 414 3 = some (.aload_n 0, 1) by decide +kernel) rfl h2
  have h4 := Gd_nx (show op 414 4 = some (.iload_n 1, 1) by decide +kernel) rfl h3
  have h5 := Gd_nx (show op 414 5 = some (.iload_n 2, 1) by decide +kernel) rfl h4
  have h6 := Gd_nx (show op 414 6 = some (.iload_n 3, 1) by decide +kernel) rfl h5
  rcases Gd_cl (show op 414 7 = some (.invokevirtual 95, 3) by decide +kernel) (call_vi' (k' := 5) (n' := 30) (nj := 4) (j := 197) (k9 := 20) (t := [(.inl 0), (.inr (.inr (some 726)))]) (as := [(.inr (.inr (some 0))), (.inl x1), (.inl x2), (.inl x3)]) (by decide +kernel) rfl (by decide +kernel) rfl rfl rfl rfl rfl rfl (by decide +kernel) (by decide +kernel)) (by decide +kernel) (Or.inl (by decide +kernel)) (by decide +kernel) h6 with ⟨x, s, hD, hb⟩ | ⟨E, s, hD, ht⟩
  · have e := Gd_det H (b414 (Or.inl ⟨x, s, hD, rfl⟩))
    cases e
    exact Or.inl ⟨x, s, hD, rfl, rfl⟩
  · obtain ⟨e1, e2, e3⟩ := thr_k (by decide +kernel) (by decide +kernel) ht
    subst e1
    exact Or.inr ⟨E, hD, e2, e3⟩
theorem iw415 {x1 : Int} {σ s1 : Sg} {kx : Int} (H : Dd 415 [(.inr (.inr (some 0))), (.inl x1), (.inr (.inr (some 726)))] σ (.inl (some (.inl kx)), s1)) : (∃ (v : Int) (s : Sg), Dd 198 [(.inr (.inr (some 0))), (.inl x1)] σ (.inl (some (.inl v)), s) ∧ kx = 0 ∧ s1 = upS s 726 0 v) ∨ (∃ E : Nat, Dd 198 [(.inr (.inr (some 0))), (.inl x1)] σ (.inr E, s1) ∧ ¬ kx = 0 ∧ hnd 415 4 E = some kx) := by
  have h0 := Dd_inv (l := 4) (by decide +kernel) H
  have h1 := Gd_nx (show op 415 0 = some (.aload_n 2, 1) by decide +kernel) rfl h0
  have h2 := Gd_nx (show op 415 1 = some (.iconst 0, 1) by decide +kernel) (sK_ok rfl) h1
  have h3 := Gd_nx (show op 415 2 = some (.aload_n 0, 1) by decide +kernel) rfl h2
  have h4 := Gd_nx (show op 415 3 = some (.iload_n 1, 1) by decide +kernel) rfl h3
  rcases Gd_cl (show op 415 4 = some (.invokevirtual 98, 3) by decide +kernel) (call_vi' (k' := 1) (n' := 6) (nj := 2) (j := 198) (k9 := 20) (t := [(.inl 0), (.inr (.inr (some 726)))]) (as := [(.inr (.inr (some 0))), (.inl x1)]) (by decide +kernel) rfl (by decide +kernel) rfl rfl rfl rfl rfl rfl (by decide +kernel) (by decide +kernel)) (by decide +kernel) (Or.inl (by decide +kernel)) (by decide +kernel) h4 with ⟨x, s, hD, hb⟩ | ⟨E, s, hD, ht⟩
  · have e := Gd_det H (b415 (Or.inl ⟨x, s, hD, rfl⟩))
    cases e
    exact Or.inl ⟨x, s, hD, rfl, rfl⟩
  · obtain ⟨e1, e2, e3⟩ := thr_k (by decide +kernel) (by decide +kernel) ht
    subst e1
    exact Or.inr ⟨E, hD, e2, e3⟩
theorem iw416 {x1 : Int} {x2 : Int} {x3 : Int} {σ s1 : Sg} {kx : Int} (H : Dd 416 [(.inr (.inr (some 0))), (.inl x1), (.inl x2), (.inl x3), (.inr (.inr (some 726)))] σ (.inl (some (.inl kx)), s1)) : (∃ (v : Int) (s : Sg), Dd 199 [(.inr (.inr (some 0))), (.inl x1), (.inl x2), (.inl x3)] σ (.inl (some (.inl v)), s) ∧ kx = 0 ∧ s1 = upS s 726 0 v) ∨ (∃ E : Nat, Dd 199 [(.inr (.inr (some 0))), (.inl x1), (.inl x2), (.inl x3)] σ (.inr E, s1) ∧ ¬ kx = 0 ∧ hnd 416 7 E = some kx) := by
  have h0 := Dd_inv (l := 6) (by decide +kernel) H
  have h1 := Gd_nx (show op 416 0 = some (.aload 4, 2) by decide +kernel) rfl h0
  have h2 := Gd_nx (show op 416 2 = some (.iconst 0, 1) by decide +kernel) (sK_ok rfl) h1
  have h3 := Gd_nx (show op 416 3 = some (.aload_n 0, 1) by decide +kernel) rfl h2
  have h4 := Gd_nx (show op 416 4 = some (.iload_n 1, 1) by decide +kernel) rfl h3
  have h5 := Gd_nx (show op 416 5 = some (.iload_n 2, 1) by decide +kernel) rfl h4
  have h6 := Gd_nx (show op 416 6 = some (.iload_n 3, 1) by decide +kernel) rfl h5
  rcases Gd_cl (show op 416 7 = some (.invokevirtual 101, 3) by decide +kernel) (call_vi' (k' := 3) (n' := 18) (nj := 4) (j := 199) (k9 := 20) (t := [(.inl 0), (.inr (.inr (some 726)))]) (as := [(.inr (.inr (some 0))), (.inl x1), (.inl x2), (.inl x3)]) (by decide +kernel) rfl (by decide +kernel) rfl rfl rfl rfl rfl rfl (by decide +kernel) (by decide +kernel)) (by decide +kernel) (Or.inl (by decide +kernel)) (by decide +kernel) h6 with ⟨x, s, hD, hb⟩ | ⟨E, s, hD, ht⟩
  · have e := Gd_det H (b416 (Or.inl ⟨x, s, hD, rfl⟩))
    cases e
    exact Or.inl ⟨x, s, hD, rfl, rfl⟩
  · obtain ⟨e1, e2, e3⟩ := thr_k (by decide +kernel) (by decide +kernel) ht
    subst e1
    exact Or.inr ⟨E, hD, e2, e3⟩
theorem iw417 {x1 : Int} {σ s1 : Sg} {kx : Int} (H : Dd 417 [(.inr (.inr (some 0))), (.inl x1), (.inr (.inr (some 726)))] σ (.inl (some (.inl kx)), s1)) : (∃ (v : Int) (s : Sg), Dd 200 [(.inr (.inr (some 0))), (.inl x1)] σ (.inl (some (.inl v)), s) ∧ kx = 0 ∧ s1 = upS s 726 0 v) ∨ (∃ E : Nat, Dd 200 [(.inr (.inr (some 0))), (.inl x1)] σ (.inr E, s1) ∧ ¬ kx = 0 ∧ hnd 417 4 E = some kx) := by
  have h0 := Dd_inv (l := 4) (by decide +kernel) H
  have h1 := Gd_nx (show op 417 0 = some (.aload_n 2, 1) by decide +kernel) rfl h0
  have h2 := Gd_nx (show op 417 1 = some (.iconst 0, 1) by decide +kernel) (sK_ok rfl) h1
  have h3 := Gd_nx (show op 417 2 = some (.aload_n 0, 1) by decide +kernel) rfl h2
  have h4 := Gd_nx (show op 417 3 = some (.iload_n 1, 1) by decide +kernel) rfl h3
  rcases Gd_cl (show op 417 4 = some (.invokevirtual 104, 3) by decide +kernel) (call_vi' (k' := 2) (n' := 12) (nj := 2) (j := 200) (k9 := 20) (t := [(.inl 0), (.inr (.inr (some 726)))]) (as := [(.inr (.inr (some 0))), (.inl x1)]) (by decide +kernel) rfl (by decide +kernel) rfl rfl rfl rfl rfl rfl (by decide +kernel) (by decide +kernel)) (by decide +kernel) (Or.inl (by decide +kernel)) (by decide +kernel) h4 with ⟨x, s, hD, hb⟩ | ⟨E, s, hD, ht⟩
  · have e := Gd_det H (b417 (Or.inl ⟨x, s, hD, rfl⟩))
    cases e
    exact Or.inl ⟨x, s, hD, rfl, rfl⟩
  · obtain ⟨e1, e2, e3⟩ := thr_k (by decide +kernel) (by decide +kernel) ht
    subst e1
    exact Or.inr ⟨E, hD, e2, e3⟩
theorem iw418 {x1 : Int} {σ s1 : Sg} {kx : Int} (H : Dd 418 [(.inr (.inr (some 0))), (.inl x1), (.inr (.inr (some 726)))] σ (.inl (some (.inl kx)), s1)) : (∃ (v : Int) (s : Sg), Dd 201 [(.inr (.inr (some 0))), (.inl x1)] σ (.inl (some (.inl v)), s) ∧ kx = 0 ∧ s1 = upS s 726 0 v) ∨ (∃ E : Nat, Dd 201 [(.inr (.inr (some 0))), (.inl x1)] σ (.inr E, s1) ∧ ¬ kx = 0 ∧ hnd 418 4 E = some kx) := by
  have h0 := Dd_inv (l := 4) (by decide +kernel) H
  have h1 := Gd_nx (show op 418 0 = some (.aload_n 2, 1) by decide +kernel) rfl h0
  have h2 := Gd_nx (show op 418 1 = some (.iconst 0, 1) by decide +kernel) (sK_ok rfl) h1
  have h3 := Gd_nx (show op 418 2 = some (.aload_n 0, 1) by decide +kernel) rfl h2
  have h4 := Gd_nx (show op 418 3 = some (.iload_n 1, 1) by decide +kernel) rfl h3
  rcases Gd_cl (show op 418 4 = some (.invokevirtual 107, 3) by decide +kernel) (call_vi' (k' := 3) (n' := 18) (nj := 2) (j := 201) (k9 := 20) (t := [(.inl 0), (.inr (.inr (some 726)))]) (as := [(.inr (.inr (some 0))), (.inl x1)]) (by decide +kernel) rfl (by decide +kernel) rfl rfl rfl rfl rfl rfl (by decide +kernel) (by decide +kernel)) (by decide +kernel) (Or.inl (by decide +kernel)) (by decide +kernel) h4 with ⟨x, s, hD, hb⟩ | ⟨E, s, hD, ht⟩
  · have e := Gd_det H (b418 (Or.inl ⟨x, s, hD, rfl⟩))
    cases e
    exact Or.inl ⟨x, s, hD, rfl, rfl⟩
  · obtain ⟨e1, e2, e3⟩ := thr_k (by decide +kernel) (by decide +kernel) ht
    subst e1
    exact Or.inr ⟨E, hD, e2, e3⟩
theorem iw419  {σ s1 : Sg} {kx : Int} (H : Dd 419 [(.inr (.inr (some 0))), (.inr (.inr (some 726)))] σ (.inl (some (.inl kx)), s1)) : (∃ (v : Int) (s : Sg), Dd 202 [(.inr (.inr (some 0)))] σ (.inl (some (.inl v)), s) ∧ kx = 0 ∧ s1 = upS s 726 0 v) ∨ (∃ E : Nat, Dd 202 [(.inr (.inr (some 0)))] σ (.inr E, s1) ∧ ¬ kx = 0 ∧ hnd 419 3 E = some kx) := by
  have h0 := Dd_inv (l := 3) (by decide +kernel) H
  have h1 := Gd_nx (show op 419 0 = some (.aload_n 1, 1) by decide +kernel) rfl h0
  have h2 := Gd_nx (show op 419 1 = some (.iconst 0, 1) by decide +kernel) (sK_ok rfl) h1
  have h3 := Gd_nx (show op 419 2 = some (.aload_n 0, 1) by decide +kernel) rfl h2
  rcases Gd_cl (show op 419 3 = some (.invokevirtual 110, 3) by decide +kernel) (call_vi' (k' := 1) (n' := 6) (nj := 1) (j := 202) (k9 := 20) (t := [(.inl 0), (.inr (.inr (some 726)))]) (as := [(.inr (.inr (some 0)))]) (by decide +kernel) rfl (by decide +kernel) rfl rfl rfl rfl rfl rfl (by decide +kernel) (by decide +kernel)) (by decide +kernel) (Or.inl (by decide +kernel)) (by decide +kernel) h3 with ⟨x, s, hD, hb⟩ | ⟨E, s, hD, ht⟩
  · have e := Gd_det H (b419 (Or.inl ⟨x, s, hD, rfl⟩))
    cases e
    exact Or.inl ⟨x, s, hD, rfl, rfl⟩
  · obtain ⟨e1, e2, e3⟩ := thr_k (by decide +kernel) (by decide +kernel) ht
    subst e1
    exact Or.inr ⟨E, hD, e2, e3⟩
theorem iw420 {x1 : Int} {σ s1 : Sg} {kx : Int} (H : Dd 420 [(.inr (.inr (some 0))), (.inl x1), (.inr (.inr (some 726)))] σ (.inl (some (.inl kx)), s1)) : (∃ (v : Int) (s : Sg), Dd 203 [(.inr (.inr (some 0))), (.inl x1)] σ (.inl (some (.inl v)), s) ∧ kx = 0 ∧ s1 = upS s 726 0 v) ∨ (∃ E : Nat, Dd 203 [(.inr (.inr (some 0))), (.inl x1)] σ (.inr E, s1) ∧ ¬ kx = 0 ∧ hnd 420 4 E = some kx) := by
  have h0 := Dd_inv (l := 4) (by decide +kernel) H
  have h1 := Gd_nx (show op 420 0 = some (.aload_n 2, 1) by decide +kernel) rfl h0
  have h2 := Gd_nx (show op 420 1 = some (.iconst 0, 1) by decide +kernel) (sK_ok rfl) h1
  have h3 := Gd_nx (show op 420 2 = some (.aload_n 0, 1) by decide +kernel) rfl h2
  have h4 := Gd_nx (show op 420 3 = some (.iload_n 1, 1) by decide +kernel) rfl h3
  rcases Gd_cl (show op 420 4 = some (.invokevirtual 114, 3) by decide +kernel) (call_vi' (k' := 2) (n' := 12) (nj := 2) (j := 203) (k9 := 20) (t := [(.inl 0), (.inr (.inr (some 726)))]) (as := [(.inr (.inr (some 0))), (.inl x1)]) (by decide +kernel) rfl (by decide +kernel) rfl rfl rfl rfl rfl rfl (by decide +kernel) (by decide +kernel)) (by decide +kernel) (Or.inl (by decide +kernel)) (by decide +kernel) h4 with ⟨x, s, hD, hb⟩ | ⟨E, s, hD, ht⟩
  · have e := Gd_det H (b420 (Or.inl ⟨x, s, hD, rfl⟩))
    cases e
    exact Or.inl ⟨x, s, hD, rfl, rfl⟩
  · obtain ⟨e1, e2, e3⟩ := thr_k (by decide +kernel) (by decide +kernel) ht
    subst e1
    exact Or.inr ⟨E, hD, e2, e3⟩
theorem iw421 {x1 : Int} {σ s1 : Sg} {kx : Int} (H : Dd 421 [(.inr (.inr (some 0))), (.inl x1), (.inr (.inr (some 726)))] σ (.inl (some (.inl kx)), s1)) : (∃ (v : Int) (s : Sg), Dd 204 [(.inr (.inr (some 0))), (.inl x1)] σ (.inl (some (.inl v)), s) ∧ kx = 0 ∧ s1 = upS s 726 0 v) ∨ (∃ E : Nat, Dd 204 [(.inr (.inr (some 0))), (.inl x1)] σ (.inr E, s1) ∧ ¬ kx = 0 ∧ hnd 421 4 E = some kx) := by
  have h0 := Dd_inv (l := 4) (by decide +kernel) H
  have h1 := Gd_nx (show op 421 0 = some (.aload_n 2, 1) by decide +kernel) rfl h0
  have h2 := Gd_nx (show op 421 1 = some (.iconst 0, 1) by decide +kernel) (sK_ok rfl) h1
  have h3 := Gd_nx (show op 421 2 = some (.aload_n 0, 1) by decide +kernel) rfl h2
  have h4 := Gd_nx (show op 421 3 = some (.iload_n 1, 1) by decide +kernel) rfl h3
  rcases Gd_cl (show op 421 4 = some (.invokevirtual 117, 3) by decide +kernel) (call_vi' (k' := 2) (n' := 12) (nj := 2) (j := 204) (k9 := 20) (t := [(.inl 0), (.inr (.inr (some 726)))]) (as := [(.inr (.inr (some 0))), (.inl x1)]) (by decide +kernel) rfl (by decide +kernel) rfl rfl rfl rfl rfl rfl (by decide +kernel) (by decide +kernel)) (by decide +kernel) (Or.inl (by decide +kernel)) (by decide +kernel) h4 with ⟨x, s, hD, hb⟩ | ⟨E, s, hD, ht⟩
  · have e := Gd_det H (b421 (Or.inl ⟨x, s, hD, rfl⟩))
    cases e
    exact Or.inl ⟨x, s, hD, rfl, rfl⟩
  · obtain ⟨e1, e2, e3⟩ := thr_k (by decide +kernel) (by decide +kernel) ht
    subst e1
    exact Or.inr ⟨E, hD, e2, e3⟩
theorem iw422 {x1 : Int} {σ s1 : Sg} {kx : Int} (H : Dd 422 [(.inr (.inr (some 0))), (.inl x1), (.inr (.inr (some 726)))] σ (.inl (some (.inl kx)), s1)) : (∃ (v : Int) (s : Sg), Dd 205 [(.inr (.inr (some 0))), (.inl x1)] σ (.inl (some (.inl v)), s) ∧ kx = 0 ∧ s1 = upS s 726 0 v) ∨ (∃ E : Nat, Dd 205 [(.inr (.inr (some 0))), (.inl x1)] σ (.inr E, s1) ∧ ¬ kx = 0 ∧ hnd 422 4 E = some kx) := by
  have h0 := Dd_inv (l := 4) (by decide +kernel) H
  have h1 := Gd_nx (show op 422 0 = some (.aload_n 2, 1) by decide +kernel) rfl h0
  have h2 := Gd_nx (show op 422 1 = some (.iconst 0, 1) by decide +kernel) (sK_ok rfl) h1
  have h3 := Gd_nx (show op 422 2 = some (.aload_n 0, 1) by decide +kernel) rfl h2
  have h4 := Gd_nx (show op 422 3 = some (.iload_n 1, 1) by decide +kernel) rfl h3
  rcases Gd_cl (show op 422 4 = some (.invokevirtual 120, 3) by decide +kernel) (call_vi' (k' := 2) (n' := 12) (nj := 2) (j := 205) (k9 := 20) (t := [(.inl 0), (.inr (.inr (some 726)))]) (as := [(.inr (.inr (some 0))), (.inl x1)]) (by decide +kernel) rfl (by decide +kernel) rfl rfl rfl rfl rfl rfl (by decide +kernel) (by decide +kernel)) (by decide +kernel) (Or.inl (by decide +kernel)) (by decide +kernel) h4 with ⟨x, s, hD, hb⟩ | ⟨E, s, hD, ht⟩
  · have e := Gd_det H (b422 (Or.inl ⟨x, s, hD, rfl⟩))
    cases e
    exact Or.inl ⟨x, s, hD, rfl, rfl⟩
  · obtain ⟨e1, e2, e3⟩ := thr_k (by decide +kernel) (by decide +kernel) ht
    subst e1
    exact Or.inr ⟨E, hD, e2, e3⟩
theorem iw423 {x1 : Int} {x2 : Int} {x3 : Int} {σ s1 : Sg} {kx : Int} (H : Dd 423 [(.inr (.inr (some 0))), (.inl x1), (.inl x2), (.inl x3), (.inr (.inr (some 726)))] σ (.inl (some (.inl kx)), s1)) : (∃ (v : Int) (s : Sg), Dd 206 [(.inr (.inr (some 0))), (.inl x1), (.inl x2), (.inl x3)] σ (.inl (some (.inl v)), s) ∧ kx = 0 ∧ s1 = upS s 726 0 v) ∨ (∃ E : Nat, Dd 206 [(.inr (.inr (some 0))), (.inl x1), (.inl x2), (.inl x3)] σ (.inr E, s1) ∧ ¬ kx = 0 ∧ hnd 423 7 E = some kx) := by
  have h0 := Dd_inv (l := 6) (by decide +kernel) H
  have h1 := Gd_nx (show op 423 0 = some (.aload 4, 2) by decide +kernel) rfl h0
  have h2 := Gd_nx (show op 423 2 = some (.iconst 0, 1) by decide +kernel) (sK_ok rfl) h1
  have h3 := Gd_nx (show op 423 3 = some (.aload_n 0, 1) by decide +kernel) rfl h2
  have h4 := Gd_nx (show op 423 4 = some (.iload_n 1, 1) by decide +kernel) rfl h3
  have h5 := Gd_nx (show op 423 5 = some (.iload_n 2, 1) by decide +kernel) rfl h4
  have h6 := Gd_nx (show op 423 6 = some (.iload_n 3, 1) by decide +kernel) rfl h5
  rcases Gd_cl (show op 423 7 = some (.invokevirtual 123, 3) by decide +kernel) (call_vi' (k' := 4) (n' := 24) (nj := 4) (j := 206) (k9 := 20) (t := [(.inl 0), (.inr (.inr (some 726)))]) (as := [(.inr (.inr (some 0))), (.inl x1), (.inl x2), (.inl x3)]) (by decide +kernel) rfl (by decide +kernel) rfl rfl rfl rfl rfl rfl (by decide +kernel) (by decide +kernel)) (by decide +kernel) (Or.inl (by decide +kernel)) (by decide +kernel) h6 with ⟨x, s, hD, hb⟩ | ⟨E, s, hD, ht⟩
  · have e := Gd_det H (b423 (Or.inl ⟨x, s, hD, rfl⟩))
    cases e
    exact Or.inl ⟨x, s, hD, rfl, rfl⟩
  · obtain ⟨e1, e2, e3⟩ := thr_k (by decide +kernel) (by decide +kernel) ht
    subst e1
    exact Or.inr ⟨E, hD, e2, e3⟩
theorem iw424 {x1 : Int} {x2 : Int} {σ s1 : Sg} {kx : Int} (H : Dd 424 [(.inr (.inr (some 0))), (.inl x1), (.inl x2), (.inr (.inr (some 726)))] σ (.inl (some (.inl kx)), s1)) : (∃ (v : Int) (s : Sg), Dd 207 [(.inr (.inr (some 0))), (.inl x1), (.inl x2)] σ (.inl (some (.inl v)), s) ∧ kx = 0 ∧ s1 = upS s 726 0 v) ∨ (∃ E : Nat, Dd 207 [(.inr (.inr (some 0))), (.inl x1), (.inl x2)] σ (.inr E, s1) ∧ ¬ kx = 0 ∧ hnd 424 5 E = some kx) := by
  have h0 := Dd_inv (l := 5) (by decide +kernel) H
  have h1 := Gd_nx (show op 424 0 = some (.aload_n 3, 1) by decide +kernel) rfl h0
  have h2 := Gd_nx (show op 424 1 = some (.iconst 0, 1) by decide +kernel) (sK_ok rfl) h1
  have h3 := Gd_nx (show op 424 2 = some (.aload_n 0, 1) by decide +kernel) rfl h2
  have h4 := Gd_nx (show op 424 3 = some (.iload_n 1, 1) by decide +kernel) rfl h3
  have h5 := Gd_nx (show op 424 4 = some (.iload_n 2, 1) by decide +kernel) rfl h4
  rcases Gd_cl (show op 424 5 = some (.invokevirtual 126, 3) by decide +kernel) (call_vi' (k' := 4) (n' := 24) (nj := 3) (j := 207) (k9 := 20) (t := [(.inl 0), (.inr (.inr (some 726)))]) (as := [(.inr (.inr (some 0))), (.inl x1), (.inl x2)]) (by decide +kernel) rfl (by decide +kernel) rfl rfl rfl rfl rfl rfl (by decide +kernel) (by decide +kernel)) (by decide +kernel) (Or.inl (by decide +kernel)) (by decide +kernel) h5 with ⟨x, s, hD, hb⟩ | ⟨E, s, hD, ht⟩
  · have e := Gd_det H (b424 (Or.inl ⟨x, s, hD, rfl⟩))
    cases e
    exact Or.inl ⟨x, s, hD, rfl, rfl⟩
  · obtain ⟨e1, e2, e3⟩ := thr_k (by decide +kernel) (by decide +kernel) ht
    subst e1
    exact Or.inr ⟨E, hD, e2, e3⟩
theorem iw425 {x1 : Int} {σ s1 : Sg} {kx : Int} (H : Dd 425 [(.inr (.inr (some 0))), (.inl x1), (.inr (.inr (some 726)))] σ (.inl (some (.inl kx)), s1)) : (∃ (v : Int) (s : Sg), Dd 209 [(.inr (.inr (some 0))), (.inl x1)] σ (.inl (some (.inl v)), s) ∧ kx = 0 ∧ s1 = upS s 726 0 v) ∨ (∃ E : Nat, Dd 209 [(.inr (.inr (some 0))), (.inl x1)] σ (.inr E, s1) ∧ ¬ kx = 0 ∧ hnd 425 4 E = some kx) := by
  have h0 := Dd_inv (l := 4) (by decide +kernel) H
  have h1 := Gd_nx (show op 425 0 = some (.aload_n 2, 1) by decide +kernel) rfl h0
  have h2 := Gd_nx (show op 425 1 = some (.iconst 0, 1) by decide +kernel) (sK_ok rfl) h1
  have h3 := Gd_nx (show op 425 2 = some (.aload_n 0, 1) by decide +kernel) rfl h2
  have h4 := Gd_nx (show op 425 3 = some (.iload_n 1, 1) by decide +kernel) rfl h3
  rcases Gd_cl (show op 425 4 = some (.invokevirtual 129, 3) by decide +kernel) (call_vi' (k' := 1) (n' := 6) (nj := 2) (j := 209) (k9 := 20) (t := [(.inl 0), (.inr (.inr (some 726)))]) (as := [(.inr (.inr (some 0))), (.inl x1)]) (by decide +kernel) rfl (by decide +kernel) rfl rfl rfl rfl rfl rfl (by decide +kernel) (by decide +kernel)) (by decide +kernel) (Or.inl (by decide +kernel)) (by decide +kernel) h4 with ⟨x, s, hD, hb⟩ | ⟨E, s, hD, ht⟩
  · have e := Gd_det H (b425 (Or.inl ⟨x, s, hD, rfl⟩))
    cases e
    exact Or.inl ⟨x, s, hD, rfl, rfl⟩
  · obtain ⟨e1, e2, e3⟩ := thr_k (by decide +kernel) (by decide +kernel) ht
    subst e1
    exact Or.inr ⟨E, hD, e2, e3⟩
theorem iw426 {x1 : Int} {σ s1 : Sg} {kx : Int} (H : Dd 426 [(.inr (.inr (some 0))), (.inl x1), (.inr (.inr (some 726)))] σ (.inl (some (.inl kx)), s1)) : (∃ (v : Int) (s : Sg), Dd 210 [(.inr (.inr (some 0))), (.inl x1)] σ (.inl (some (.inl v)), s) ∧ kx = 0 ∧ s1 = upS s 726 0 v) ∨ (∃ E : Nat, Dd 210 [(.inr (.inr (some 0))), (.inl x1)] σ (.inr E, s1) ∧ ¬ kx = 0 ∧ hnd 426 4 E = some kx) := by
  have h0 := Dd_inv (l := 4) (by decide +kernel) H
  have h1 := Gd_nx (show op 426 0 = some (.aload_n 2, 1) by decide +kernel) rfl h0
  have h2 := Gd_nx (show op 426 1 = some (.iconst 0, 1) by decide +kernel) (sK_ok rfl) h1
  have h3 := Gd_nx (show op 426 2 = some (.aload_n 0, 1) by decide +kernel) rfl h2
  have h4 := Gd_nx (show op 426 3 = some (.iload_n 1, 1) by decide +kernel) rfl h3
  rcases Gd_cl (show op 426 4 = some (.invokevirtual 132, 3) by decide +kernel) (call_vi' (k' := 1) (n' := 6) (nj := 2) (j := 210) (k9 := 20) (t := [(.inl 0), (.inr (.inr (some 726)))]) (as := [(.inr (.inr (some 0))), (.inl x1)]) (by decide +kernel) rfl (by decide +kernel) rfl rfl rfl rfl rfl rfl (by decide +kernel) (by decide +kernel)) (by decide +kernel) (Or.inl (by decide +kernel)) (by decide +kernel) h4 with ⟨x, s, hD, hb⟩ | ⟨E, s, hD, ht⟩
  · have e := Gd_det H (b426 (Or.inl ⟨x, s, hD, rfl⟩))
    cases e
    exact Or.inl ⟨x, s, hD, rfl, rfl⟩
  · obtain ⟨e1, e2, e3⟩ := thr_k (by decide +kernel) (by decide +kernel) ht
    subst e1
    exact Or.inr ⟨E, hD, e2, e3⟩
theorem iw427 {x1 : Int} {σ s1 : Sg} {kx : Int} (H : Dd 427 [(.inr (.inr (some 0))), (.inl x1), (.inr (.inr (some 726)))] σ (.inl (some (.inl kx)), s1)) : (∃ (v : Int) (s : Sg), Dd 211 [(.inr (.inr (some 0))), (.inl x1)] σ (.inl (some (.inl v)), s) ∧ kx = 0 ∧ s1 = upS s 726 0 v) ∨ (∃ E : Nat, Dd 211 [(.inr (.inr (some 0))), (.inl x1)] σ (.inr E, s1) ∧ ¬ kx = 0 ∧ hnd 427 4 E = some kx) := by
  have h0 := Dd_inv (l := 4) (by decide +kernel) H
  have h1 := Gd_nx (show op 427 0 = some (.aload_n 2, 1) by decide +kernel) rfl h0
  have h2 := Gd_nx (show op 427 1 = some (.iconst 0, 1) by decide +kernel) (sK_ok rfl) h1
  have h3 := Gd_nx (show op 427 2 = some (.aload_n 0, 1) by decide +kernel) rfl h2
  have h4 := Gd_nx (show op 427 3 = some (.iload_n 1, 1) by decide +kernel) rfl h3
  rcases Gd_cl (show op 427 4 = some (.invokevirtual 135, 3) by decide +kernel) (call_vi' (k' := 1) (n' := 6) (nj := 2) (j := 211) (k9 := 20) (t := [(.inl 0), (.inr (.inr (some 726)))]) (as := [(.inr (.inr (some 0))), (.inl x1)]) (by decide +kernel) rfl (by decide +kernel) rfl rfl rfl rfl rfl rfl (by decide +kernel) (by decide +kernel)) (by decide +kernel) (Or.inl (by decide +kernel)) (by decide +kernel) h4 with ⟨x, s, hD, hb⟩ | ⟨E, s, hD, ht⟩
  · have e := Gd_det H (b427 (Or.inl ⟨x, s, hD, rfl⟩))
    cases e
    exact Or.inl ⟨x, s, hD, rfl, rfl⟩
  · obtain ⟨e1, e2, e3⟩ := thr_k (by decide +kernel) (by decide +kernel) ht
    subst e1
    exact Or.inr ⟨E, hD, e2, e3⟩
theorem iw428  {σ s1 : Sg} {kx : Int} (H : Dd 428 [(.inr (.inr (some 0))), (.inr (.inr (some 726)))] σ (.inl (some (.inl kx)), s1)) : (∃ (v : Int) (s : Sg), Dd 212 [(.inr (.inr (some 0)))] σ (.inl (some (.inl v)), s) ∧ kx = 0 ∧ s1 = upS s 726 0 v) ∨ (∃ E : Nat, Dd 212 [(.inr (.inr (some 0)))] σ (.inr E, s1) ∧ ¬ kx = 0 ∧ hnd 428 3 E = some kx) := by
  have h0 := Dd_inv (l := 3) (by decide +kernel) H
  have h1 := Gd_nx (show op 428 0 = some (.aload_n 1, 1) by decide +kernel) rfl h0
  have h2 := Gd_nx (show op 428 1 = some (.iconst 0, 1) by decide +kernel) (sK_ok rfl) h1
  have h3 := Gd_nx (show op 428 2 = some (.aload_n 0, 1) by decide +kernel) rfl h2
  rcases Gd_cl (show op 428 3 = some (.invokevirtual 138, 3) by decide +kernel) (call_vi' (k' := 1) (n' := 6) (nj := 1) (j := 212) (k9 := 20) (t := [(.inl 0), (.inr (.inr (some 726)))]) (as := [(.inr (.inr (some 0)))]) (by decide +kernel) rfl (by decide +kernel) rfl rfl rfl rfl rfl rfl (by decide +kernel) (by decide +kernel)) (by decide +kernel) (Or.inl (by decide +kernel)) (by decide +kernel) h3 with ⟨x, s, hD, hb⟩ | ⟨E, s, hD, ht⟩
  · have e := Gd_det H (b428 (Or.inl ⟨x, s, hD, rfl⟩))
    cases e
    exact Or.inl ⟨x, s, hD, rfl, rfl⟩
  · obtain ⟨e1, e2, e3⟩ := thr_k (by decide +kernel) (by decide +kernel) ht
    subst e1
    exact Or.inr ⟨E, hD, e2, e3⟩
theorem iw429 {x1 : Int} {σ s1 : Sg} {kx : Int} (H : Dd 429 [(.inr (.inr (some 0))), (.inl x1), (.inr (.inr (some 726)))] σ (.inl (some (.inl kx)), s1)) : (∃ (v : Int) (s : Sg), Dd 213 [(.inr (.inr (some 0))), (.inl x1)] σ (.inl (some (.inl v)), s) ∧ kx = 0 ∧ s1 = upS s 726 0 v) ∨ (∃ E : Nat, Dd 213 [(.inr (.inr (some 0))), (.inl x1)] σ (.inr E, s1) ∧ ¬ kx = 0 ∧ hnd 429 4 E = some kx) := by
  have h0 := Dd_inv (l := 4) (by decide +kernel) H
  have h1 := Gd_nx (show op 429 0 = some (.aload_n 2, 1) by decide +kernel) rfl h0
  have h2 := Gd_nx (show op 429 1 = some (.iconst 0, 1) by decide +kernel) (sK_ok rfl) h1
  have h3 := Gd_nx (show op 429 2 = some (.aload_n 0, 1) by decide +kernel) rfl h2
  have h4 := Gd_nx (show op 429 3 = some (.iload_n 1, 1) by decide +kernel) rfl h3
  rcases Gd_cl (show op 429 4 = some (.invokevirtual 141, 3) by decide +kernel) (call_vi' (k' := 1) (n' := 6) (nj := 2) (j := 213) (k9 := 20) (t := [(.inl 0), (.inr (.inr (some 726)))]) (as := [(.inr (.inr (some 0))), (.inl x1)]) (by decide +kernel) rfl (by decide +kernel) rfl rfl rfl rfl rfl rfl (by decide +kernel) (by decide +kernel)) (by decide +kernel) (Or.inl (by decide +kernel)) (by decide +kernel) h4 with ⟨x, s, hD, hb⟩ | ⟨E, s, hD, ht⟩
  · have e := Gd_det H (b429 (Or.inl ⟨x, s, hD, rfl⟩))
    cases e
    exact Or.inl ⟨x, s, hD, rfl, rfl⟩
  · obtain ⟨e1, e2, e3⟩ := thr_k (by decide +kernel) (by decide +kernel) ht
    subst e1
    exact Or.inr ⟨E, hD, e2, e3⟩
theorem iw430 {x1 : Int} {σ s1 : Sg} {kx : Int} (H : Dd 430 [(.inr (.inr (some 0))), (.inl x1), (.inr (.inr (some 726)))] σ (.inl (some (.inl kx)), s1)) : (∃ (v : Int) (s : Sg), Dd 214 [(.inr (.inr (some 0))), (.inl x1)] σ (.inl (some (.inl v)), s) ∧ kx = 0 ∧ s1 = upS s 726 0 v) ∨ (∃ E : Nat, Dd 214 [(.inr (.inr (some 0))), (.inl x1)] σ (.inr E, s1) ∧ ¬ kx = 0 ∧ hnd 430 4 E = some kx) := by
  have h0 := Dd_inv (l := 4) (by decide +kernel) H
  have h1 := Gd_nx (show op 430 0 = some (.aload_n 2, 1) by decide +kernel) rfl h0
  have h2 := Gd_nx (show op 430 1 = some (.iconst 0, 1) by decide +kernel) (sK_ok rfl) h1
  have h3 := Gd_nx (show op 430 2 = some (.aload_n 0, 1) by decide +kernel) rfl h2
  have h4 := Gd_nx (show op 430 3 = some (.iload_n 1, 1) by decide +kernel) rfl h3
  rcases Gd_cl (show op 430 4 = some (.invokevirtual 144, 3) by decide +kernel) (call_vi' (k' := 1) (n' := 6) (nj := 2) (j := 214) (k9 := 20) (t := [(.inl 0), (.inr (.inr (some 726)))]) (as := [(.inr (.inr (some 0))), (.inl x1)]) (by decide +kernel) rfl (by decide +kernel) rfl rfl rfl rfl rfl rfl (by decide +kernel) (by decide +kernel)) (by decide +kernel) (Or.inl (by decide +kernel)) (by decide +kernel) h4 with ⟨x, s, hD, hb⟩ | ⟨E, s, hD, ht⟩
  · have e := Gd_det H (b430 (Or.inl ⟨x, s, hD, rfl⟩))
    cases e
    exact Or.inl ⟨x, s, hD, rfl, rfl⟩
  · obtain ⟨e1, e2, e3⟩ := thr_k (by decide +kernel) (by decide +kernel) ht
    subst e1
    exact Or.inr ⟨E, hD, e2, e3⟩
theorem iw431 {x1 : Int} {x2 : Int} {x3 : Int} {σ s1 : Sg} {kx : Int} (H : Dd 431 [(.inr (.inr (some 0))), (.inl x1), (.inl x2), (.inl x3), (.inr (.inr (some 726)))] σ (.inl (some (.inl kx)), s1)) : (∃ (v : Int) (s : Sg), Dd 215 [(.inr (.inr (some 0))), (.inl x1), (.inl x2), (.inl x3)] σ (.inl (some (.inl v)), s) ∧ kx = 0 ∧ s1 = upS s 726 0 (if v = 0 then 0 else 1) ∧ (v = 0 ∨ v = 1)) ∨ (∃ E : Nat, Dd 215 [(.inr (.inr (some 0))), (.inl x1), (.inl x2), (.inl x3)] σ (.inr E, s1) ∧ ¬ kx = 0 ∧ hnd 431 7 E = some kx) := by
  have h0 := Dd_inv (l := 6) (by decide +kernel) H
  have h1 := Gd_nx (show op 431 0 = some (.aload 4, 2) by decide +kernel) rfl h0
  have h2 := Gd_nx (show op 431 2 = some (.iconst 0, 1) by decide +kernel) (sK_ok rfl) h1
  have h3 := Gd_nx (show op 431 3 = some (.aload_n 0, 1) by decide +kernel) rfl h2
  have h4 := Gd_nx (show op 431 4 = some (.iload_n 1, 1) by decide +kernel) rfl h3
  have h5 := Gd_nx (show op 431 5 = some (.iload_n 2, 1) by decide +kernel) rfl h4
  have h6 := Gd_nx (show op 431 6 = some (.iload_n 3, 1) by decide +kernel) rfl h5
  rcases Gd_cl (show op 431 7 = some (.invokevirtual 147, 3) by decide +kernel) (call_vi' (k' := 3) (n' := 18) (nj := 4) (j := 215) (k9 := 20) (t := [(.inl 0), (.inr (.inr (some 726)))]) (as := [(.inr (.inr (some 0))), (.inl x1), (.inl x2), (.inl x3)]) (by decide +kernel) rfl (by decide +kernel) rfl rfl rfl rfl rfl rfl (by decide +kernel) (by decide +kernel)) (by decide +kernel) (Or.inr (by decide +kernel)) (by decide +kernel) h6 with ⟨x, s, hD, hb⟩ | ⟨E, s, hD, ht⟩
  · have e := Gd_det H (b431 (Or.inl ⟨x, s, hD, b431_18 ⟨by decide, rfl⟩⟩))
    cases e
    exact Or.inl ⟨x, s, hD, rfl, rfl, hb (by decide +kernel)⟩
  · obtain ⟨e1, e2, e3⟩ := thr_k (by decide +kernel) (by decide +kernel) ht
    subst e1
    exact Or.inr ⟨E, hD, e2, e3⟩
theorem iw432 {x1 : Int} {x2 : Int} {σ s1 : Sg} {kx : Int} (H : Dd 432 [(.inr (.inr (some 0))), (.inl x1), (.inl x2), (.inr (.inr (some 726)))] σ (.inl (some (.inl kx)), s1)) : (∃ (v : Int) (s : Sg), Dd 216 [(.inr (.inr (some 0))), (.inl x1), (.inl x2)] σ (.inl (some (.inl v)), s) ∧ kx = 0 ∧ s1 = upS s 726 0 v) ∨ (∃ E : Nat, Dd 216 [(.inr (.inr (some 0))), (.inl x1), (.inl x2)] σ (.inr E, s1) ∧ ¬ kx = 0 ∧ hnd 432 5 E = some kx) := by
  have h0 := Dd_inv (l := 5) (by decide +kernel) H
  have h1 := Gd_nx (show op 432 0 = some (.aload_n 3, 1) by decide +kernel) rfl h0
  have h2 := Gd_nx (show op 432 1 = some (.iconst 0, 1) by decide +kernel) (sK_ok rfl) h1
  have h3 := Gd_nx (show op 432 2 = some (.aload_n 0, 1) by decide +kernel) rfl h2
  have h4 := Gd_nx (show op 432 3 = some (.iload_n 1, 1) by decide +kernel) rfl h3
  have h5 := Gd_nx (show op 432 4 = some (.iload_n 2, 1) by decide +kernel) rfl h4
  rcases Gd_cl (show op 432 5 = some (.invokevirtual 151, 3) by decide +kernel) (call_vi' (k' := 3) (n' := 18) (nj := 3) (j := 216) (k9 := 20) (t := [(.inl 0), (.inr (.inr (some 726)))]) (as := [(.inr (.inr (some 0))), (.inl x1), (.inl x2)]) (by decide +kernel) rfl (by decide +kernel) rfl rfl rfl rfl rfl rfl (by decide +kernel) (by decide +kernel)) (by decide +kernel) (Or.inl (by decide +kernel)) (by decide +kernel) h5 with ⟨x, s, hD, hb⟩ | ⟨E, s, hD, ht⟩
  · have e := Gd_det H (b432 (Or.inl ⟨x, s, hD, rfl⟩))
    cases e
    exact Or.inl ⟨x, s, hD, rfl, rfl⟩
  · obtain ⟨e1, e2, e3⟩ := thr_k (by decide +kernel) (by decide +kernel) ht
    subst e1
    exact Or.inr ⟨E, hD, e2, e3⟩
theorem iw433 {x1 : Int} {x2 : Int} {σ s1 : Sg} {kx : Int} (H : Dd 433 [(.inr (.inr (some 0))), (.inl x1), (.inl x2), (.inr (.inr (some 726)))] σ (.inl (some (.inl kx)), s1)) : (∃ (v : Int) (s : Sg), Dd 217 [(.inr (.inr (some 0))), (.inl x1), (.inl x2)] σ (.inl (some (.inl v)), s) ∧ kx = 0 ∧ s1 = upS s 726 0 v) ∨ (∃ E : Nat, Dd 217 [(.inr (.inr (some 0))), (.inl x1), (.inl x2)] σ (.inr E, s1) ∧ ¬ kx = 0 ∧ hnd 433 5 E = some kx) := by
  have h0 := Dd_inv (l := 5) (by decide +kernel) H
  have h1 := Gd_nx (show op 433 0 = some (.aload_n 3, 1) by decide +kernel) rfl h0
  have h2 := Gd_nx (show op 433 1 = some (.iconst 0, 1) by decide +kernel) (sK_ok rfl) h1
  have h3 := Gd_nx (show op 433 2 = some (.aload_n 0, 1) by decide +kernel) rfl h2
  have h4 := Gd_nx (show op 433 3 = some (.iload_n 1, 1) by decide +kernel) rfl h3
  have h5 := Gd_nx (show op 433 4 = some (.iload_n 2, 1) by decide +kernel) rfl h4
  rcases Gd_cl (show op 433 5 = some (.invokevirtual 154, 3) by decide +kernel) (call_vi' (k' := 3) (n' := 18) (nj := 3) (j := 217) (k9 := 20) (t := [(.inl 0), (.inr (.inr (some 726)))]) (as := [(.inr (.inr (some 0))), (.inl x1), (.inl x2)]) (by decide +kernel) rfl (by decide +kernel) rfl rfl rfl rfl rfl rfl (by decide +kernel) (by decide +kernel)) (by decide +kernel) (Or.inl (by decide +kernel)) (by decide +kernel) h5 with ⟨x, s, hD, hb⟩ | ⟨E, s, hD, ht⟩
  · have e := Gd_det H (b433 (Or.inl ⟨x, s, hD, rfl⟩))
    cases e
    exact Or.inl ⟨x, s, hD, rfl, rfl⟩
  · obtain ⟨e1, e2, e3⟩ := thr_k (by decide +kernel) (by decide +kernel) ht
    subst e1
    exact Or.inr ⟨E, hD, e2, e3⟩
theorem iw434 {x1 : Int} {x2 : Int} {σ s1 : Sg} {kx : Int} (H : Dd 434 [(.inr (.inr (some 0))), (.inl x1), (.inl x2), (.inr (.inr (some 726)))] σ (.inl (some (.inl kx)), s1)) : (∃ (v : Int) (s : Sg), Dd 218 [(.inr (.inr (some 0))), (.inl x1), (.inl x2)] σ (.inl (some (.inl v)), s) ∧ kx = 0 ∧ s1 = upS s 726 0 v) ∨ (∃ E : Nat, Dd 218 [(.inr (.inr (some 0))), (.inl x1), (.inl x2)] σ (.inr E, s1) ∧ ¬ kx = 0 ∧ hnd 434 5 E = some kx) := by
  have h0 := Dd_inv (l := 5) (by decide +kernel) H
  have h1 := Gd_nx (show op 434 0 = some (.aload_n 3, 1) by decide +kernel) rfl h0
  have h2 := Gd_nx (show op 434 1 = some (.iconst 0, 1) by decide +kernel) (sK_ok rfl) h1
  have h3 := Gd_nx (show op 434 2 = some (.aload_n 0, 1) by decide +kernel) rfl h2
  have h4 := Gd_nx (show op 434 3 = some (.iload_n 1, 1) by decide +kernel) rfl h3
  have h5 := Gd_nx (show op 434 4 = some (.iload_n 2, 1) by decide +kernel) rfl h4
  rcases Gd_cl (show op 434 5 = some (.invokevirtual 157, 3) by decide +kernel) (call_vi' (k' := 2) (n' := 12) (nj := 3) (j := 218) (k9 := 20) (t := [(.inl 0), (.inr (.inr (some 726)))]) (as := [(.inr (.inr (some 0))), (.inl x1), (.inl x2)]) (by decide +kernel) rfl (by decide +kernel) rfl rfl rfl rfl rfl rfl (by decide +kernel) (by decide +kernel)) (by decide +kernel) (Or.inl (by decide +kernel)) (by decide +kernel) h5 with ⟨x, s, hD, hb⟩ | ⟨E, s, hD, ht⟩
  · have e := Gd_det H (b434 (Or.inl ⟨x, s, hD, rfl⟩))
    cases e
    exact Or.inl ⟨x, s, hD, rfl, rfl⟩
  · obtain ⟨e1, e2, e3⟩ := thr_k (by decide +kernel) (by decide +kernel) ht
    subst e1
    exact Or.inr ⟨E, hD, e2, e3⟩
theorem iw435 {x1 : Int} {x2 : Int} {σ s1 : Sg} {kx : Int} (H : Dd 435 [(.inr (.inr (some 0))), (.inl x1), (.inl x2), (.inr (.inr (some 726)))] σ (.inl (some (.inl kx)), s1)) : (∃ (v : Int) (s : Sg), Dd 219 [(.inr (.inr (some 0))), (.inl x1), (.inl x2)] σ (.inl (some (.inl v)), s) ∧ kx = 0 ∧ s1 = upS s 726 0 v) ∨ (∃ E : Nat, Dd 219 [(.inr (.inr (some 0))), (.inl x1), (.inl x2)] σ (.inr E, s1) ∧ ¬ kx = 0 ∧ hnd 435 5 E = some kx) := by
  have h0 := Dd_inv (l := 5) (by decide +kernel) H
  have h1 := Gd_nx (show op 435 0 = some (.aload_n 3, 1) by decide +kernel) rfl h0
  have h2 := Gd_nx (show op 435 1 = some (.iconst 0, 1) by decide +kernel) (sK_ok rfl) h1
  have h3 := Gd_nx (show op 435 2 = some (.aload_n 0, 1) by decide +kernel) rfl h2
  have h4 := Gd_nx (show op 435 3 = some (.iload_n 1, 1) by decide +kernel) rfl h3
  have h5 := Gd_nx (show op 435 4 = some (.iload_n 2, 1) by decide +kernel) rfl h4
  rcases Gd_cl (show op 435 5 = some (.invokevirtual 160, 3) by decide +kernel) (call_vi' (k' := 3) (n' := 18) (nj := 3) (j := 219) (k9 := 20) (t := [(.inl 0), (.inr (.inr (some 726)))]) (as := [(.inr (.inr (some 0))), (.inl x1), (.inl x2)]) (by decide +kernel) rfl (by decide +kernel) rfl rfl rfl rfl rfl rfl (by decide +kernel) (by decide +kernel)) (by decide +kernel) (Or.inl (by decide +kernel)) (by decide +kernel) h5 with ⟨x, s, hD, hb⟩ | ⟨E, s, hD, ht⟩
  · have e := Gd_det H (b435 (Or.inl ⟨x, s, hD, rfl⟩))
    cases e
    exact Or.inl ⟨x, s, hD, rfl, rfl⟩
  · obtain ⟨e1, e2, e3⟩ := thr_k (by decide +kernel) (by decide +kernel) ht
    subst e1
    exact Or.inr ⟨E, hD, e2, e3⟩
theorem iw436 {x1 : Int} {σ s1 : Sg} {kx : Int} (H : Dd 436 [(.inr (.inr (some 0))), (.inl x1), (.inr (.inr (some 726)))] σ (.inl (some (.inl kx)), s1)) : (∃ (v : Int) (s : Sg), Dd 220 [(.inr (.inr (some 0))), (.inl x1)] σ (.inl (some (.inl v)), s) ∧ kx = 0 ∧ s1 = upS s 726 0 v) ∨ (∃ E : Nat, Dd 220 [(.inr (.inr (some 0))), (.inl x1)] σ (.inr E, s1) ∧ ¬ kx = 0 ∧ hnd 436 4 E = some kx) := by
  have h0 := Dd_inv (l := 4) (by decide +kernel) H
  have h1 := Gd_nx (show op 436 0 = some (.aload_n 2, 1) by decide +kernel) rfl h0
  have h2 := Gd_nx (show op 436 1 = some (.iconst 0, 1) by decide +kernel) (sK_ok rfl) h1
  have h3 := Gd_nx (show op 436 2 = some (.aload_n 0, 1) by decide +kernel) rfl h2
  have h4 := Gd_nx (show op 436 3 = some (.iload_n 1, 1) by decide +kernel) rfl h3
  rcases Gd_cl (show op 436 4 = some (.invokevirtual 163, 3) by decide +kernel) (call_vi' (k' := 1) (n' := 6) (nj := 2) (j := 220) (k9 := 20) (t := [(.inl 0), (.inr (.inr (some 726)))]) (as := [(.inr (.inr (some 0))), (.inl x1)]) (by decide +kernel) rfl (by decide +kernel) rfl rfl rfl rfl rfl rfl (by decide +kernel) (by decide +kernel)) (by decide +kernel) (Or.inl (by decide +kernel)) (by decide +kernel) h4 with ⟨x, s, hD, hb⟩ | ⟨E, s, hD, ht⟩
  · have e := Gd_det H (b436 (Or.inl ⟨x, s, hD, rfl⟩))
    cases e
    exact Or.inl ⟨x, s, hD, rfl, rfl⟩
  · obtain ⟨e1, e2, e3⟩ := thr_k (by decide +kernel) (by decide +kernel) ht
    subst e1
    exact Or.inr ⟨E, hD, e2, e3⟩
theorem iw437 {x1 : Int} {x2 : Int} {σ s1 : Sg} {kx : Int} (H : Dd 437 [(.inr (.inr (some 0))), (.inl x1), (.inl x2), (.inr (.inr (some 726)))] σ (.inl (some (.inl kx)), s1)) : (∃ (v : Int) (s : Sg), Dd 221 [(.inr (.inr (some 0))), (.inl x1), (.inl x2)] σ (.inl (some (.inl v)), s) ∧ kx = 0 ∧ s1 = upS s 726 0 v) ∨ (∃ E : Nat, Dd 221 [(.inr (.inr (some 0))), (.inl x1), (.inl x2)] σ (.inr E, s1) ∧ ¬ kx = 0 ∧ hnd 437 5 E = some kx) := by
  have h0 := Dd_inv (l := 5) (by decide +kernel) H
  have h1 := Gd_nx (show op 437 0 = some (.aload_n 3, 1) by decide +kernel) rfl h0
  have h2 := Gd_nx (show op 437 1 = some (.iconst 0, 1) by decide +kernel) (sK_ok rfl) h1
  have h3 := Gd_nx (show op 437 2 = some (.aload_n 0, 1) by decide +kernel) rfl h2
  have h4 := Gd_nx (show op 437 3 = some (.iload_n 1, 1) by decide +kernel) rfl h3
  have h5 := Gd_nx (show op 437 4 = some (.iload_n 2, 1) by decide +kernel) rfl h4
  rcases Gd_cl (show op 437 5 = some (.invokevirtual 166, 3) by decide +kernel) (call_vi' (k' := 2) (n' := 12) (nj := 3) (j := 221) (k9 := 20) (t := [(.inl 0), (.inr (.inr (some 726)))]) (as := [(.inr (.inr (some 0))), (.inl x1), (.inl x2)]) (by decide +kernel) rfl (by decide +kernel) rfl rfl rfl rfl rfl rfl (by decide +kernel) (by decide +kernel)) (by decide +kernel) (Or.inl (by decide +kernel)) (by decide +kernel) h5 with ⟨x, s, hD, hb⟩ | ⟨E, s, hD, ht⟩
  · have e := Gd_det H (b437 (Or.inl ⟨x, s, hD, rfl⟩))
    cases e
    exact Or.inl ⟨x, s, hD, rfl, rfl⟩
  · obtain ⟨e1, e2, e3⟩ := thr_k (by decide +kernel) (by decide +kernel) ht
    subst e1
    exact Or.inr ⟨E, hD, e2, e3⟩
theorem iw438 {x1 : Int} {x2 : Int} {σ s1 : Sg} {kx : Int} (H : Dd 438 [(.inr (.inr (some 0))), (.inl x1), (.inl x2), (.inr (.inr (some 726)))] σ (.inl (some (.inl kx)), s1)) : (∃ (v : Int) (s : Sg), Dd 222 [(.inr (.inr (some 0))), (.inl x1), (.inl x2)] σ (.inl (some (.inl v)), s) ∧ kx = 0 ∧ s1 = upS s 726 0 v) ∨ (∃ E : Nat, Dd 222 [(.inr (.inr (some 0))), (.inl x1), (.inl x2)] σ (.inr E, s1) ∧ ¬ kx = 0 ∧ hnd 438 5 E = some kx) := by
  have h0 := Dd_inv (l := 5) (by decide +kernel) H
  have h1 := Gd_nx (show op 438 0 = some (.aload_n 3, 1) by decide +kernel) rfl h0
  have h2 := Gd_nx (show op 438 1 = some (.iconst 0, 1) by decide +kernel) (sK_ok rfl) h1
  have h3 := Gd_nx (show op 438 2 = some (.aload_n 0, 1) by decide +kernel) rfl h2
  have h4 := Gd_nx (show op 438 3 = some (.iload_n 1, 1) by decide +kernel) rfl h3
  have h5 := Gd_nx (show op 438 4 = some (.iload_n 2, 1) by decide +kernel) rfl h4
  rcases Gd_cl (show op 438 5 = some (.invokevirtual 169, 3) by decide +kernel) (call_vi' (k' := 3) (n' := 18) (nj := 3) (j := 222) (k9 := 20) (t := [(.inl 0), (.inr (.inr (some 726)))]) (as := [(.inr (.inr (some 0))), (.inl x1), (.inl x2)]) (by decide +kernel) rfl (by decide +kernel) rfl rfl rfl rfl rfl rfl (by decide +kernel) (by decide +kernel)) (by decide +kernel) (Or.inl (by decide +kernel)) (by decide +kernel) h5 with ⟨x, s, hD, hb⟩ | ⟨E, s, hD, ht⟩
  · have e := Gd_det H (b438 (Or.inl ⟨x, s, hD, rfl⟩))
    cases e
    exact Or.inl ⟨x, s, hD, rfl, rfl⟩
  · obtain ⟨e1, e2, e3⟩ := thr_k (by decide +kernel) (by decide +kernel) ht
    subst e1
    exact Or.inr ⟨E, hD, e2, e3⟩
theorem iw439 {x1 : Int} {x2 : Int} {σ s1 : Sg} {kx : Int} (H : Dd 439 [(.inr (.inr (some 0))), (.inl x1), (.inl x2), (.inr (.inr (some 726)))] σ (.inl (some (.inl kx)), s1)) : (∃ (v : Int) (s : Sg), Dd 223 [(.inr (.inr (some 0))), (.inl x1), (.inl x2)] σ (.inl (some (.inl v)), s) ∧ kx = 0 ∧ s1 = upS s 726 0 v) ∨ (∃ E : Nat, Dd 223 [(.inr (.inr (some 0))), (.inl x1), (.inl x2)] σ (.inr E, s1) ∧ ¬ kx = 0 ∧ hnd 439 5 E = some kx) := by
  have h0 := Dd_inv (l := 5) (by decide +kernel) H
  have h1 := Gd_nx (show op 439 0 = some (.aload_n 3, 1) by decide +kernel) rfl h0
  have h2 := Gd_nx (show op 439 1 = some (.iconst 0, 1) by decide +kernel) (sK_ok rfl) h1
  have h3 := Gd_nx (show op 439 2 = some (.aload_n 0, 1) by decide +kernel) rfl h2
  have h4 := Gd_nx (show op 439 3 = some (.iload_n 1, 1) by decide +kernel) rfl h3
  have h5 := Gd_nx (show op 439 4 = some (.iload_n 2, 1) by decide +kernel) rfl h4
  rcases Gd_cl (show op 439 5 = some (.invokevirtual 172, 3) by decide +kernel) (call_vi' (k' := 4) (n' := 24) (nj := 3) (j := 223) (k9 := 20) (t := [(.inl 0), (.inr (.inr (some 726)))]) (as := [(.inr (.inr (some 0))), (.inl x1), (.inl x2)]) (by decide +kernel) rfl (by decide +kernel) rfl rfl rfl rfl rfl rfl (by decide +kernel) (by decide +kernel)) (by decide +kernel) (Or.inl (by decide +kernel)) (by decide +kernel) h5 with ⟨x, s, hD, hb⟩ | ⟨E, s, hD, ht⟩
  · have e := Gd_det H (b439 (Or.inl ⟨x, s, hD, rfl⟩))
    cases e
    exact Or.inl ⟨x, s, hD, rfl, rfl⟩
  · obtain ⟨e1, e2, e3⟩ := thr_k (by decide +kernel) (by decide +kernel) ht
    subst e1
    exact Or.inr ⟨E, hD, e2, e3⟩
theorem iw440 {x1 : Int} {σ s1 : Sg} {kx : Int} (H : Dd 440 [(.inr (.inr (some 0))), (.inl x1), (.inr (.inr (some 726)))] σ (.inl (some (.inl kx)), s1)) : (∃ (v : Int) (s : Sg), Dd 224 [(.inr (.inr (some 0))), (.inl x1)] σ (.inl (some (.inl v)), s) ∧ kx = 0 ∧ s1 = upS s 726 0 v) ∨ (∃ E : Nat, Dd 224 [(.inr (.inr (some 0))), (.inl x1)] σ (.inr E, s1) ∧ ¬ kx = 0 ∧ hnd 440 4 E = some kx) := by
  have h0 := Dd_inv (l := 4) (by decide +kernel) H
  have h1 := Gd_nx (show op 440 0 = some (.aload_n 2, 1) by decide +kernel) rfl h0
  have h2 := Gd_nx (show op 440 1 = some (.iconst 0, 1) by decide +kernel) (sK_ok rfl) h1
  have h3 := Gd_nx (show op 440 2 = some (.aload_n 0, 1) by decide +kernel) rfl h2
  have h4 := Gd_nx (show op 440 3 = some (.iload_n 1, 1) by decide +kernel) rfl h3
  rcases Gd_cl (show op 440 4 = some (.invokevirtual 175, 3) by decide +kernel) (call_vi' (k' := 1) (n' := 6) (nj := 2) (j := 224) (k9 := 20) (t := [(.inl 0), (.inr (.inr (some 726)))]) (as := [(.inr (.inr (some 0))), (.inl x1)]) (by decide +kernel) rfl (by decide +kernel) rfl rfl rfl rfl rfl rfl (by decide +kernel) (by decide +kernel)) (by decide +kernel) (Or.inl (by decide +kernel)) (by decide +kernel) h4 with ⟨x, s, hD, hb⟩ | ⟨E, s, hD, ht⟩
  · have e := Gd_det H (b440 (Or.inl ⟨x, s, hD, rfl⟩))
    cases e
    exact Or.inl ⟨x, s, hD, rfl, rfl⟩
  · obtain ⟨e1, e2, e3⟩ := thr_k (by decide +kernel) (by decide +kernel) ht
    subst e1
    exact Or.inr ⟨E, hD, e2, e3⟩
theorem iw441 {x1 : Int} {x2 : Int} {σ s1 : Sg} {kx : Int} (H : Dd 441 [(.inr (.inr (some 0))), (.inl x1), (.inl x2), (.inr (.inr (some 726)))] σ (.inl (some (.inl kx)), s1)) : (∃ (v : Int) (s : Sg), Dd 225 [(.inr (.inr (some 0))), (.inl x1), (.inl x2)] σ (.inl (some (.inl v)), s) ∧ kx = 0 ∧ s1 = upS s 726 0 v) ∨ (∃ E : Nat, Dd 225 [(.inr (.inr (some 0))), (.inl x1), (.inl x2)] σ (.inr E, s1) ∧ ¬ kx = 0 ∧ hnd 441 5 E = some kx) := by
  have h0 := Dd_inv (l := 5) (by decide +kernel) H
  have h1 := Gd_nx (show op 441 0 = some (.aload_n 3, 1) by decide +kernel) rfl h0
  have h2 := Gd_nx (show op 441 1 = some (.iconst 0, 1) by decide +kernel) (sK_ok rfl) h1
  have h3 := Gd_nx (show op 441 2 = some (.aload_n 0, 1) by decide +kernel) rfl h2
  have h4 := Gd_nx (show op 441 3 = some (.iload_n 1, 1) by decide +kernel) rfl h3
  have h5 := Gd_nx (show op 441 4 = some (.iload_n 2, 1) by decide +kernel) rfl h4
  rcases Gd_cl (show op 441 5 = some (.invokevirtual 178, 3) by decide +kernel) (call_vi' (k' := 2) (n' := 12) (nj := 3) (j := 225) (k9 := 20) (t := [(.inl 0), (.inr (.inr (some 726)))]) (as := [(.inr (.inr (some 0))), (.inl x1), (.inl x2)]) (by decide +kernel) rfl (by decide +kernel) rfl rfl rfl rfl rfl rfl (by decide +kernel) (by decide +kernel)) (by decide +kernel) (Or.inl (by decide +kernel)) (by decide +kernel) h5 with ⟨x, s, hD, hb⟩ | ⟨E, s, hD, ht⟩
  · have e := Gd_det H (b441 (Or.inl ⟨x, s, hD, rfl⟩))
    cases e
    exact Or.inl ⟨x, s, hD, rfl, rfl⟩
  · obtain ⟨e1, e2, e3⟩ := thr_k (by decide +kernel) (by decide +kernel) ht
    subst e1
    exact Or.inr ⟨E, hD, e2, e3⟩
theorem iw442 {x1 : Int} {x2 : Int} {x3 : Int} {σ s1 : Sg} {kx : Int} (H : Dd 442 [(.inr (.inr (some 0))), (.inl x1), (.inl x2), (.inl x3), (.inr (.inr (some 726)))] σ (.inl (some (.inl kx)), s1)) : (∃ (v : Int) (s : Sg), Dd 226 [(.inr (.inr (some 0))), (.inl x1), (.inl x2), (.inl x3)] σ (.inl (some (.inl v)), s) ∧ kx = 0 ∧ s1 = upS s 726 0 v) ∨ (∃ E : Nat, Dd 226 [(.inr (.inr (some 0))), (.inl x1), (.inl x2), (.inl x3)] σ (.inr E, s1) ∧ ¬ kx = 0 ∧ hnd 442 7 E = some kx) := by
  have h0 := Dd_inv (l := 6) (by decide +kernel) H
  have h1 := Gd_nx (show op 442 0 = some (.aload 4, 2) by decide +kernel) rfl h0
  have h2 := Gd_nx (show op 442 2 = some (.iconst 0, 1) by decide +kernel) (sK_ok rfl) h1
  have h3 := Gd_nx (show op 442 3 = some (.aload_n 0, 1) by decide +kernel) rfl h2
  have h4 := Gd_nx (show op 442 4 = some (.iload_n 1, 1) by decide +kernel) rfl h3
  have h5 := Gd_nx (show op 442 5 = some (.iload_n 2, 1) by decide +kernel) rfl h4
  have h6 := Gd_nx (show op 442 6 = some (.iload_n 3, 1) by decide +kernel) rfl h5
  rcases Gd_cl (show op 442 7 = some (.invokevirtual 181, 3) by decide +kernel) (call_vi' (k' := 4) (n' := 24) (nj := 4) (j := 226) (k9 := 20) (t := [(.inl 0), (.inr (.inr (some 726)))]) (as := [(.inr (.inr (some 0))), (.inl x1), (.inl x2), (.inl x3)]) (by decide +kernel) rfl (by decide +kernel) rfl rfl rfl rfl rfl rfl (by decide +kernel) (by decide +kernel)) (by decide +kernel) (Or.inl (by decide +kernel)) (by decide +kernel) h6 with ⟨x, s, hD, hb⟩ | ⟨E, s, hD, ht⟩
  · have e := Gd_det H (b442 (Or.inl ⟨x, s, hD, rfl⟩))
    cases e
    exact Or.inl ⟨x, s, hD, rfl, rfl⟩
  · obtain ⟨e1, e2, e3⟩ := thr_k (by decide +kernel) (by decide +kernel) ht
    subst e1
    exact Or.inr ⟨E, hD, e2, e3⟩
end
