/-! The tables' rows as they are used. -/
def lwG : List Jvm.Cond := lw_tbl.filter goodWord
theorem lwG_in {w : Jvm.Cond} (h : w ∈ lw_tbl ∧ goodWord w = true) : w ∈ lwG := List.mem_filter.mpr h
theorem lwG_of {w : Jvm.Cond} (h : w ∈ lwG) : w ∈ lw_tbl ∧ goodWord w = true := List.mem_filter.mp h
theorem lkup_mem {α β : Type} [BEq α] [LawfulBEq α] {a : α} {v : β} : ∀ {l : List (α × β)}, l.lookup a = some v → (a, v) ∈ l := by
  intro l
  induction l with
  | nil => intro h; cases h
  | cons x t ih =>
    intro h
    obtain ⟨y, w⟩ := x
    rw [List.lookup_cons] at h
    by_cases q : (a == y) = true
    · rw [q] at h
      cases h
      rw [eq_of_beq q]
      exact List.mem_cons_self
    · rw [Bool.not_eq_true] at q
      rw [q] at h
      exact List.mem_cons_of_mem _ (ih h)
theorem fl_ok {o i ci f : Nat} {fin isR : Bool} (h : zfl o i = some (ci, f, fin, isR)) : ∃ (C : String) (T : u_T) (N : Nat), vwCl[ci]? = some (C, T, N) ∧ f < N ∧ Cond.fieldLink (zownS o) i (T f).1 (T f).2.1 (T f).2.2.1 ∈ lwG ∧ (T f).2.2.2 = fin ∧
    (fin = true → zownCi o = ci → (T f).1 = zownS o) ∧ (isR = false → parseFieldDescriptor (T f).2.2.1 = some .int) ∧ (isR = true → ∃ t : FieldType, parseFieldDescriptor (T f).2.2.1 = some t ∧ ((∃ n, t = .object n) ∨ ∃ t', t = .array t')) := by
  unfold zfl at h
  cases hq : zflT.lookup (o, i) with
  | none => rw [hq] at h; cases h
  | some q =>
    rw [hq] at h
    obtain ⟨p, q2⟩ := q
    have e : q2 = (ci, f, fin, isR) := Option.some.inj h
    subst e
    have h1 := List.all_eq_true.mp okF_all _ (lkup_mem hq)
    unfold chkF at h1
    dsimp only at h1
    cases hc : vwCl[ci]? with
    | none => rw [hc] at h1; cases h1
    | some r =>
      obtain ⟨C, T, N⟩ := r
      rw [hc] at h1
      dsimp only at h1
      rw [Bool.and_eq_true, Bool.and_eq_true, Bool.and_eq_true, Bool.and_eq_true] at h1
      obtain ⟨⟨⟨⟨a1, a2⟩, a3⟩, a4⟩, a5⟩ := h1
      refine ⟨C, T, N, rfl, of_decide_eq_true a1, lwG_in (chkW_in a2), eq_of_beq a3, fun hf ho => ?_, fun hr => ?_, fun hr => ?_⟩
      · subst hf
        rw [Bool.or_eq_true, Bool.or_eq_true] at a4
        rcases a4 with (a4 | a4) | a4
        · cases a4
        · exact absurd ho (of_decide_eq_true a4)
        · exact of_decide_eq_true a4
      · subst hr
        split at a5 <;> first | assumption | cases a5
      · subst hr
        split at a5
        · cases a5
        · exact ⟨_, by assumption, Or.inl ⟨_, rfl⟩⟩
        · exact ⟨_, by assumption, Or.inr ⟨_, rfl⟩⟩
        · cases a5
theorem cl_ok {o i ci : Nat} (h : zcl o i = some ci) : ∃ (C : String) (T : u_T) (N : Nat), vwCl[ci]? = some (C, T, N) ∧ Cond.classLink (zownS o) i C ∈ lwG := by
  unfold zcl at h
  cases hq : zclT.lookup (o, i) with
  | none => rw [hq] at h; cases h
  | some q =>
    rw [hq] at h
    obtain ⟨p, q2⟩ := q
    have e : q2 = ci := Option.some.inj h
    subst e
    have h1 := List.all_eq_true.mp okC_all _ (lkup_mem hq)
    unfold chkC at h1
    dsimp only at h1
    cases hc : vwCl[q2]? with
    | none => rw [hc] at h1; cases h1
    | some r =>
      obtain ⟨C, T, N⟩ := r
      rw [hc] at h1
      exact ⟨C, T, N, rfl, lwG_in (chkW_in h1)⟩
theorem ck_ok {o i : Nat} {v : Int} (h : zck o i = some v) : Cond.constant (zownS o) i (Int32.ofInt v) ∈ lwG := by
  unfold zck at h
  cases hq : zckT.lookup (o, i) with
  | none => rw [hq] at h; cases h
  | some q =>
    rw [hq] at h
    obtain ⟨p, q2⟩ := q
    have e : q2 = v := Option.some.inj h
    subst e
    exact lwG_in (chkW_in (List.all_eq_true.mp okK_all _ (lkup_mem hq)))
theorem ml_ok {o i j : Nat} (h : zml o i = some j) : (j = 1000 ∧ Cond.methodLink (zownS o) i Lib.Math.max.name ∈ lwG) ∨ (j = 1001 ∧ Cond.methodLink (zownS o) i Lib.Math.min.name ∈ lwG) ∨ (j = 1002 ∧ Cond.methodLink (zownS o) i Lib.objectInit ∈ lwG) ∨ (j ≠ 1000 ∧ j ≠ 1001 ∧ j ≠ 1002 ∧ Cond.methodLink (zownS o) i (zM_y j) ∈ lwG) := by
  unfold zml at h
  cases hq : zmlT.lookup (o, i) with
  | none => rw [hq] at h; cases h
  | some q =>
    rw [hq] at h
    obtain ⟨p, q2⟩ := q
    have e : q2 = j := Option.some.inj h
    subst e
    have h1 := List.all_eq_true.mp okL_all _ (lkup_mem hq)
    unfold chkL at h1
    dsimp only at h1
    split at h1
    · exact Or.inl ⟨by assumption, lwG_in (chkW_in h1)⟩
    · split at h1
      · exact Or.inr (Or.inl ⟨by assumption, lwG_in (chkW_in h1)⟩)
      · split at h1
        · exact Or.inr (Or.inr (Or.inl ⟨by assumption, lwG_in (chkW_in h1)⟩))
        · exact Or.inr (Or.inr (Or.inr ⟨by assumption, by assumption, by assumption, lwG_in (chkW_in h1)⟩))
/-- what a method's row says -/
theorem M_ok {m : Nat} (h0 : ¬ m = 0) (hm : m < nMeth) : M_code m ∈ lwG ∧ Cond.initialized (zM_y m).cls ∈ lwG ∧ (zM_k m = 0 → Cond.static (zM_y m) ∈ lwG) ∧ (¬ zM_k m = 0 → Cond.instanceMethod (zM_y m) ∈ lwG ∧ 0 < zM_n m ∧ zM_hh m = []) ∧
    (zM_k m = 1 → Cond.selects (zM_y m).cls (zM_y m) (zM_y m) ∈ lwG ∧ ∃ T N, vwCl[zownCi (zM_o m)]? = some ((zM_y m).cls, T, N)) ∧ (zM_y m).cls = zownS (zM_o m) ∧ plainName (zM_y m).cls = true ∧ (zM_y m).cls ≠ "java/lang/invoke/MethodHandle" ∧ (zM_y m).cls ≠ "java/lang/invoke/VarHandle" ∧
    (parseMethodDescriptor (zM_y m).desc).map (fun d => d.parameters.length) = some (if zM_k m = 0 then zM_n m else zM_n m - 1) ∧ zM_k m < 3 ∧ (zM_k m = 2 → (zM_y m).name = "<init>" ∧ zM_ret m = none ∧ zM_hh m = []) := by
  have hin : m ∈ mIdx1 := by
    unfold mIdx1
    rw [List.mem_iff_getElem?]
    refine ⟨m - 1, ?_⟩
    rw [List.getElem?_drop, show 1 + (m - 1) = m by omega]
    exact List.getElem?_range hm
  have h1 := List.all_eq_true.mp okM_all m hin
  unfold chkM at h1
  cases hq : mpT[m]? with
  | none => rw [hq] at h1; cases h1
  | some q =>
    rw [hq] at h1
    obtain ⟨p1, p2, p3, p4⟩ := q
    dsimp only at h1
    simp only [Bool.and_eq_true] at h1
    obtain ⟨⟨⟨⟨⟨⟨⟨⟨⟨⟨⟨a1, a2⟩, a3⟩, a4⟩, a5⟩, a6⟩, a7⟩, a8⟩, a9⟩, a10⟩, a11⟩, a12⟩ := h1
    refine ⟨?_, lwG_in (chkW_in a2), fun hk => ?_, fun hk => ?_, fun hk => ?_, of_decide_eq_true a5, a6, of_decide_eq_true a7, of_decide_eq_true a8, of_decide_eq_true a9, of_decide_eq_true a10, fun hk => ?_⟩
    · unfold chkP at a1
      simp only [Bool.and_eq_true] at a1
      obtain ⟨⟨b1, b2⟩, b3⟩ := a1
      have b1 := of_decide_eq_true b1
      cases hw : lw_tbl[p1]? with
      | none => rw [hw] at b3; cases b3
      | some w =>
        rw [hw] at b3
        have hmem : w ∈ lw_tbl := List.mem_of_getElem? hw
        have hbb : zM_b m = zbytesOf (some w) := by unfold zM_b; rw [if_neg h0, ← b1, hw]
        cases w with
        | code y bb LL r =>
          dsimp only at b3
          simp only [Bool.and_eq_true, decide_eq_true_eq] at b3
          obtain ⟨⟨⟨⟨c1, c2⟩, c3⟩, c4⟩, c5⟩ := b3
          have e : M_code m = Cond.code y bb LL r := by unfold M_code; rw [if_pos c1, c2, c3, c4, hbb]; rfl
          rw [e]
          exact lwG_in ⟨hmem, c5⟩
        | codeWith y bb LL r hh =>
          dsimp only at b3
          simp only [Bool.and_eq_true, decide_eq_true_eq] at b3
          obtain ⟨⟨⟨⟨⟨c1, c2⟩, c3⟩, c4⟩, c6⟩, c5⟩ := b3
          have e : M_code m = Cond.codeWith y bb LL r hh := by unfold M_code; rw [if_neg c1, c2, c3, c4, c6, hbb]; rfl
          rw [e]
          exact lwG_in ⟨hmem, c5⟩
        | _ => cases b3
    · rw [if_pos hk] at a3; exact lwG_in (chkW_in a3)
    · rw [if_neg hk] at a3 a12
      rw [Bool.and_eq_true] at a12
      exact ⟨lwG_in (chkW_in a3), of_decide_eq_true a12.1, of_decide_eq_true a12.2⟩
    · rw [if_pos hk, Bool.and_eq_true] at a4
      refine ⟨lwG_in (chkW_in a4.1), ?_⟩
      have a4 := a4.2
      cases hv : vwCl[zownCi (zM_o m)]? with
      | none => rw [hv] at a4; cases a4
      | some r =>
        obtain ⟨C, T, N⟩ := r
        rw [hv] at a4
        have e := of_decide_eq_true a4
        subst e
        exact ⟨T, N, rfl⟩
    · rw [if_pos hk] at a11
      simp only [Bool.and_eq_true] at a11
      exact ⟨of_decide_eq_true a11.1.1, of_decide_eq_true a11.1.2, of_decide_eq_true a11.2⟩

set_option maxRecDepth 100000 in
theorem cw_0 : (u_ws RX0 TX0 3).all (fun w => decide (w ∈ lw_tbl) && goodWord w) = true := by decide +kernel
set_option maxRecDepth 100000 in
theorem ci_0 : (chkW 206 (.instantiable RX0 3) && chkW 75 (.initialized RX0)) = true := by decide +kernel
set_option maxRecDepth 100000 in
theorem cw_1 : (u_ws RX1 TX1 9).all (fun w => decide (w ∈ lw_tbl) && goodWord w) = true := by decide +kernel
set_option maxRecDepth 100000 in
theorem ci_1 : (chkW 170 (.instantiable RX1 9) && chkW 74 (.initialized RX1)) = true := by decide +kernel
set_option maxRecDepth 100000 in
theorem cw_2 : (u_ws RX2 TX2 3).all (fun w => decide (w ∈ lw_tbl) && goodWord w) = true := by decide +kernel
set_option maxRecDepth 100000 in
theorem ci_2 : (chkW 369 (.instantiable RX2 3) && chkW 81 (.initialized RX2)) = true := by decide +kernel
set_option maxRecDepth 100000 in
theorem cw_3 : (u_ws RX3 TX3 6).all (fun w => decide (w ∈ lw_tbl) && goodWord w) = true := by decide +kernel
set_option maxRecDepth 100000 in
theorem ci_3 : (chkW 340 (.instantiable RX3 6) && chkW 80 (.initialized RX3)) = true := by decide +kernel
set_option maxRecDepth 100000 in
theorem cw_4 : (u_ws RX5 TX5 7).all (fun w => decide (w ∈ lw_tbl) && goodWord w) = true := by decide +kernel
set_option maxRecDepth 100000 in
theorem ci_4 : (chkW 247 (.instantiable RX5 7) && chkW 77 (.initialized RX5)) = true := by decide +kernel
set_option maxRecDepth 100000 in
theorem cw_5 : (u_ws RX6 TX6 6).all (fun w => decide (w ∈ lw_tbl) && goodWord w) = true := by decide +kernel
set_option maxRecDepth 100000 in
theorem ci_5 : (chkW 125 (.instantiable RX6 6) && chkW 73 (.initialized RX6)) = true := by decide +kernel
set_option maxRecDepth 100000 in
theorem cw_6 : (u_ws RX7 TX7 5).all (fun w => decide (w ∈ lw_tbl) && goodWord w) = true := by decide +kernel
set_option maxRecDepth 100000 in
theorem ci_6 : (chkW 278 (.instantiable RX7 5) && chkW 78 (.initialized RX7)) = true := by decide +kernel
set_option maxRecDepth 100000 in
theorem cw_7 : (u_ws RX8 TX8 3).all (fun w => decide (w ∈ lw_tbl) && goodWord w) = true := by decide +kernel
set_option maxRecDepth 100000 in
theorem ci_7 : (chkW 228 (.instantiable RX8 3) && chkW 76 (.initialized RX8)) = true := by decide +kernel
set_option maxRecDepth 100000 in
theorem cw_8 : (u_ws RX9 TX9 2).all (fun w => decide (w ∈ lw_tbl) && goodWord w) = true := by decide +kernel
set_option maxRecDepth 100000 in
theorem ci_8 : (chkW 106 (.instantiable RX9 2) && chkW 71 (.initialized RX9)) = true := by decide +kernel
set_option maxRecDepth 100000 in
theorem cw_9 : (u_ws RX10 TX10 7).all (fun w => decide (w ∈ lw_tbl) && goodWord w) = true := by decide +kernel
set_option maxRecDepth 100000 in
theorem ci_9 : (chkW 309 (.instantiable RX10 7) && chkW 79 (.initialized RX10)) = true := by decide +kernel
set_option maxRecDepth 100000 in
theorem cw_10 : (u_ws RX11 TX11 13).all (fun w => decide (w ∈ lw_tbl) && goodWord w) = true := by decide +kernel
set_option maxRecDepth 100000 in
theorem ci_10 : (chkW 91 (.instantiable RX11 13) && chkW 70 (.initialized RX11)) = true := by decide +kernel
theorem cls_in {ci : Nat} {C : String} {T : u_T} {N : Nat} (h : vwCl[ci]? = some (C, T, N)) : (∀ w ∈ u_ws C T N, w ∈ lwG) ∧ Cond.instantiable C N ∈ lwG ∧ Cond.initialized C ∈ lwG := by
  match ci, h with
  | 0, h => cases h; exact ⟨fun w hw => by have q := List.all_eq_true.mp cw_0 w hw; rw [Bool.and_eq_true] at q; exact lwG_in ⟨of_decide_eq_true q.1, q.2⟩, by have q := ci_0; rw [Bool.and_eq_true] at q; exact ⟨lwG_in (chkW_in q.1), lwG_in (chkW_in q.2)⟩⟩
  | 1, h => cases h; exact ⟨fun w hw => by have q := List.all_eq_true.mp cw_1 w hw; rw [Bool.and_eq_true] at q; exact lwG_in ⟨of_decide_eq_true q.1, q.2⟩, by have q := ci_1; rw [Bool.and_eq_true] at q; exact ⟨lwG_in (chkW_in q.1), lwG_in (chkW_in q.2)⟩⟩
  | 2, h => cases h; exact ⟨fun w hw => by have q := List.all_eq_true.mp cw_2 w hw; rw [Bool.and_eq_true] at q; exact lwG_in ⟨of_decide_eq_true q.1, q.2⟩, by have q := ci_2; rw [Bool.and_eq_true] at q; exact ⟨lwG_in (chkW_in q.1), lwG_in (chkW_in q.2)⟩⟩
  | 3, h => cases h; exact ⟨fun w hw => by have q := List.all_eq_true.mp cw_3 w hw; rw [Bool.and_eq_true] at q; exact lwG_in ⟨of_decide_eq_true q.1, q.2⟩, by have q := ci_3; rw [Bool.and_eq_true] at q; exact ⟨lwG_in (chkW_in q.1), lwG_in (chkW_in q.2)⟩⟩
  | 4, h => cases h; exact ⟨fun w hw => by have q := List.all_eq_true.mp cw_4 w hw; rw [Bool.and_eq_true] at q; exact lwG_in ⟨of_decide_eq_true q.1, q.2⟩, by have q := ci_4; rw [Bool.and_eq_true] at q; exact ⟨lwG_in (chkW_in q.1), lwG_in (chkW_in q.2)⟩⟩
  | 5, h => cases h; exact ⟨fun w hw => by have q := List.all_eq_true.mp cw_5 w hw; rw [Bool.and_eq_true] at q; exact lwG_in ⟨of_decide_eq_true q.1, q.2⟩, by have q := ci_5; rw [Bool.and_eq_true] at q; exact ⟨lwG_in (chkW_in q.1), lwG_in (chkW_in q.2)⟩⟩
  | 6, h => cases h; exact ⟨fun w hw => by have q := List.all_eq_true.mp cw_6 w hw; rw [Bool.and_eq_true] at q; exact lwG_in ⟨of_decide_eq_true q.1, q.2⟩, by have q := ci_6; rw [Bool.and_eq_true] at q; exact ⟨lwG_in (chkW_in q.1), lwG_in (chkW_in q.2)⟩⟩
  | 7, h => cases h; exact ⟨fun w hw => by have q := List.all_eq_true.mp cw_7 w hw; rw [Bool.and_eq_true] at q; exact lwG_in ⟨of_decide_eq_true q.1, q.2⟩, by have q := ci_7; rw [Bool.and_eq_true] at q; exact ⟨lwG_in (chkW_in q.1), lwG_in (chkW_in q.2)⟩⟩
  | 8, h => cases h; exact ⟨fun w hw => by have q := List.all_eq_true.mp cw_8 w hw; rw [Bool.and_eq_true] at q; exact lwG_in ⟨of_decide_eq_true q.1, q.2⟩, by have q := ci_8; rw [Bool.and_eq_true] at q; exact ⟨lwG_in (chkW_in q.1), lwG_in (chkW_in q.2)⟩⟩
  | 9, h => cases h; exact ⟨fun w hw => by have q := List.all_eq_true.mp cw_9 w hw; rw [Bool.and_eq_true] at q; exact lwG_in ⟨of_decide_eq_true q.1, q.2⟩, by have q := ci_9; rw [Bool.and_eq_true] at q; exact ⟨lwG_in (chkW_in q.1), lwG_in (chkW_in q.2)⟩⟩
  | 10, h => cases h; exact ⟨fun w hw => by have q := List.all_eq_true.mp cw_10 w hw; rw [Bool.and_eq_true] at q; exact lwG_in ⟨of_decide_eq_true q.1, q.2⟩, by have q := ci_10; rw [Bool.and_eq_true] at q; exact ⟨lwG_in (chkW_in q.1), lwG_in (chkW_in q.2)⟩⟩
  | k + 11, h => exact absurd h (by simp [vwCl])
theorem cls_ty {ci : Nat} {C : String} {T : u_T} {N : Nat} (h : vwCl[ci]? = some (C, T, N)) : ∃ ty : Nat → FieldType, (∀ k, k < N → parseFieldDescriptor (T k).2.2.1 = some (ty k)) ∧ (∀ a, a < N → ∀ b, b < N → a ≠ b → (T a).2.1 ≠ (T b).2.1) ∧ ∃ rf, zshT[ci]? = some rf ∧ rf.length = N ∧ (∀ r ∈ rf, ∀ z, r = some z → z = none) ∧ ∀ j, j < N → ((rf.getD j none = none ∧ defaultValue (ty j) = .int 0) ∨ (rf.getD j none = some none ∧ defaultValue (ty j) = .null)) := by
  match ci, h with
  | 0, h => cases h; exact ⟨tyX0, tyX0_ok, nmX0, _, rfl, rfl, by decide, by decide +kernel⟩
  | 1, h => cases h; exact ⟨tyX1, tyX1_ok, nmX1, _, rfl, rfl, by decide, by decide +kernel⟩
  | 2, h => cases h; exact ⟨tyX2, tyX2_ok, nmX2, _, rfl, rfl, by decide, by decide +kernel⟩
  | 3, h => cases h; exact ⟨tyX3, tyX3_ok, nmX3, _, rfl, rfl, by decide, by decide +kernel⟩
  | 4, h => cases h; exact ⟨tyX5, tyX5_ok, nmX5, _, rfl, rfl, by decide, by decide +kernel⟩
  | 5, h => cases h; exact ⟨tyX6, tyX6_ok, nmX6, _, rfl, rfl, by decide, by decide +kernel⟩
  | 6, h => cases h; exact ⟨tyX7, tyX7_ok, nmX7, _, rfl, rfl, by decide, by decide +kernel⟩
  | 7, h => cases h; exact ⟨tyX8, tyX8_ok, nmX8, _, rfl, rfl, by decide, by decide +kernel⟩
  | 8, h => cases h; exact ⟨tyX9, tyX9_ok, nmX9, _, rfl, rfl, by decide, by decide +kernel⟩
  | 9, h => cases h; exact ⟨tyX10, tyX10_ok, nmX10, _, rfl, rfl, by decide, by decide +kernel⟩
  | 10, h => cases h; exact ⟨tyX11, tyX11_ok, nmX11, _, rfl, rfl, by decide, by decide +kernel⟩
  | k + 11, h => exact absurd h (by simp [vwCl])
theorem js_max : chkW 102 (.static Lib.Math.max.name) = true := by decide +kernel
theorem js_min : chkW 641 (.static Lib.Math.min.name) = true := by decide +kernel
theorem js_ini : chkW 72 (.initialized "java/lang/Math") = true := by decide +kernel
theorem js_obj : chkW 96 (.instanceMethod Lib.objectInit) = true := by decide +kernel
theorem js_ai : chkW 118 (.arrayClass .int) = true := by decide +kernel
theorem js_az : chkW 367 (.arrayClass .boolean) = true := by decide +kernel
theorem jc_max : Cond.code Lib.Math.max.name Lib.Math.max.code 2 (some .int) ∈ lwG := lwG_in ⟨List.mem_of_getElem? (i := 103) (by decide +kernel), rfl⟩
theorem jc_min : Cond.code Lib.Math.min.name Lib.Math.min.code 2 (some .int) ∈ lwG := lwG_in ⟨List.mem_of_getElem? (i := 642) (by decide +kernel), rfl⟩
theorem jc_obj : Cond.code Lib.objectInit ⟨#[0xb1]⟩ 1 none ∈ lwG := lwG_in ⟨List.mem_of_getElem? (i := 97) (by decide +kernel), rfl⟩
def strT : List (String × Nat × String) := [("PatchBench", 115, "the text is full"), ("PatchBench", 190, "they can't be moved past each other"), ("PatchBench", 216, "the text between the parts is too long"), ("PatchBench", 252, "the text would be too long"), ("PatchBench", 263, "the old texts are not the same"), ("PatchBench", 282, "the stack has patches"), ("PatchBench", 287, "the stack is full"), ("PatchBench", 293, "the patch has another old text"), ("PatchBench", 329, "the line is paired"), ("PatchBench", 338, "the stack has too many patches"), ("PatchBench", 382, "the row is full"), ("PatchBench", 422, "no such text"), ("PatchBench", 425, "no such row"), ("PatchBench", 430, "no such delta"), ("PatchBench", 435, "no such patch"), ("PatchBench", 437, "no such patch of the stack"), ("PatchBench", 439, "no such number or place"), ("PatchBench", 441, "a place below 0"), ("PatchBench", 445, "out of range"), ("PatchBench", 452, "neither a line nor a mark"), ("PatchBench", 454, "no such way"), ("PatchBench", 456, "the second patch has another old text"), ("PatchBench", 458, "the stack has no patch"), ("PatchBench", 460, "there are 10 differences"), ("PatchBench", 463, "there are 10 deltas"), ("PatchBench", 468, "there are too few bytes to copy"), ("PatchBench", 470, "there are 24 patches")]
def exS (E : Nat) : String := (["java/lang/IndexOutOfBoundsException", "java/lang/IllegalArgumentException", "java/lang/IllegalStateException"] : List String).getD E ""
def exD : List Jvm.Cond := [.declares (Bundle.initS "java/lang/RuntimeException"), .declares (Bundle.initS "java/lang/Exception"), .declares (Bundle.initS Bundle.tN)]
def exB (E : Nat) : List Jvm.Cond := .castable (exS E) (exS E) :: exD
def exN : List String := ["java/lang/RuntimeException", "java/lang/Exception"]
set_option maxRecDepth 100000 in
theorem xa_11_117 : ((vx_atS (zownS 11) 117 (exS 2) exN).filter goodWord).all (fun w => decide (w ∈ lw_tbl)) = true := by decide +kernel
set_option maxRecDepth 100000 in
theorem xb_11_117 : ((vx_atS (zownS 11) 117 (exS 2) exN).filter (fun w => !goodWord w)).all (fun w => decide (w ∈ exB 2)) = true := by decide +kernel
set_option maxRecDepth 100000 in
theorem xc_11_117 : (vx_atS (zownS 11) 117 (exS 2) exN).all vx_ot = true := by decide +kernel
set_option maxRecDepth 100000 in
theorem xa_11_424 : ((vx_atS (zownS 11) 424 (exS 0) exN).filter goodWord).all (fun w => decide (w ∈ lw_tbl)) = true := by decide +kernel
set_option maxRecDepth 100000 in
theorem xb_11_424 : ((vx_atS (zownS 11) 424 (exS 0) exN).filter (fun w => !goodWord w)).all (fun w => decide (w ∈ exB 0)) = true := by decide +kernel
set_option maxRecDepth 100000 in
theorem xc_11_424 : (vx_atS (zownS 11) 424 (exS 0) exN).all vx_ot = true := by decide +kernel
set_option maxRecDepth 100000 in
theorem xa_11_447 : ((vx_atS (zownS 11) 447 (exS 1) exN).filter goodWord).all (fun w => decide (w ∈ lw_tbl)) = true := by decide +kernel
set_option maxRecDepth 100000 in
theorem xb_11_447 : ((vx_atS (zownS 11) 447 (exS 1) exN).filter (fun w => !goodWord w)).all (fun w => decide (w ∈ exB 1)) = true := by decide +kernel
set_option maxRecDepth 100000 in
theorem xc_11_447 : (vx_atS (zownS 11) 447 (exS 1) exN).all vx_ot = true := by decide +kernel
theorem xd_11_113 : (chkW 581 (.classLink (zownS 11) 113 (exS 2)) && chkW 89 (.initialized (exS 2))) = true := by decide +kernel
theorem xd_11_420 : (chkW 553 (.classLink (zownS 11) 420 (exS 0)) && chkW 85 (.initialized (exS 0))) = true := by decide +kernel
theorem xd_11_443 : (chkW 448 (.classLink (zownS 11) 443 (exS 1)) && chkW 87 (.initialized (exS 1))) = true := by decide +kernel
/-- a throw's row -/
def xtOK (m pc E : Nat) : Prop := E < 3 ∧ ∃ (ik is ic : Nat) (tx : String) (wd : Bool), zop m pc = some (.new ik, 3) ∧ zop m (pc + 3) = some (.dup, 1) ∧ (wd = false → zop m (pc + 4) = some (.ldc is, 2) ∧ zop m (pc + 6) = some (.invokespecial ic, 3) ∧ zop m (pc + 9) = some (.athrow, 1)) ∧ (wd = true → zop m (pc + 4) = some (.ldc_w is, 3) ∧ zop m (pc + 7) = some (.invokespecial ic, 3) ∧ zop m (pc + 10) = some (.athrow, 1)) ∧
  (zownS (zM_o m), is, tx) ∈ strT ∧ Cond.classLink (zownS (zM_o m)) ik (exS E) ∈ lwG ∧ Cond.initialized (exS E) ∈ lwG ∧ (∀ w ∈ (vx_atS (zownS (zM_o m)) ic (exS E) exN).filter goodWord, w ∈ lw_tbl) ∧ (∀ w ∈ (vx_atS (zownS (zM_o m)) ic (exS E) exN).filter (fun w => !goodWord w), w ∈ exB E) ∧ (∀ w ∈ vx_atS (zownS (zM_o m)) ic (exS E) exN, vx_ot w = true)
set_option maxRecDepth 100000 in
theorem xt_172_34 : xtOK 172 34 2 := ⟨by decide, 113, 115, 117, "the text is full", false, rfl, rfl, fun _ => ⟨rfl, rfl, rfl⟩, fun h => absurd h (by decide), List.mem_of_getElem? (i := 0) rfl, by have q := xd_11_113; rw [Bool.and_eq_true] at q; exact lwG_in (chkW_in q.1), by have q := xd_11_113; rw [Bool.and_eq_true] at q; exact lwG_in (chkW_in q.2), fun w hw => of_decide_eq_true (List.all_eq_true.mp xa_11_117 w hw), fun w hw => of_decide_eq_true (List.all_eq_true.mp xb_11_117 w hw), fun w hw => List.all_eq_true.mp xc_11_117 w hw⟩
set_option maxRecDepth 100000 in
theorem xt_185_52 : xtOK 185 52 2 := ⟨by decide, 113, 190, 117, "they can't be moved past each other", false, rfl, rfl, fun _ => ⟨rfl, rfl, rfl⟩, fun h => absurd h (by decide), List.mem_of_getElem? (i := 1) rfl, by have q := xd_11_113; rw [Bool.and_eq_true] at q; exact lwG_in (chkW_in q.1), by have q := xd_11_113; rw [Bool.and_eq_true] at q; exact lwG_in (chkW_in q.2), fun w hw => of_decide_eq_true (List.all_eq_true.mp xa_11_117 w hw), fun w hw => of_decide_eq_true (List.all_eq_true.mp xb_11_117 w hw), fun w hw => List.all_eq_true.mp xc_11_117 w hw⟩
set_option maxRecDepth 100000 in
theorem xt_186_60 : xtOK 186 60 2 := ⟨by decide, 113, 216, 117, "the text between the parts is too long", false, rfl, rfl, fun _ => ⟨rfl, rfl, rfl⟩, fun h => absurd h (by decide), List.mem_of_getElem? (i := 2) rfl, by have q := xd_11_113; rw [Bool.and_eq_true] at q; exact lwG_in (chkW_in q.1), by have q := xd_11_113; rw [Bool.and_eq_true] at q; exact lwG_in (chkW_in q.2), fun w hw => of_decide_eq_true (List.all_eq_true.mp xa_11_117 w hw), fun w hw => of_decide_eq_true (List.all_eq_true.mp xb_11_117 w hw), fun w hw => List.all_eq_true.mp xc_11_117 w hw⟩
set_option maxRecDepth 100000 in
theorem xt_195_36 : xtOK 195 36 2 := ⟨by decide, 113, 252, 117, "the text would be too long", false, rfl, rfl, fun _ => ⟨rfl, rfl, rfl⟩, fun h => absurd h (by decide), List.mem_of_getElem? (i := 3) rfl, by have q := xd_11_113; rw [Bool.and_eq_true] at q; exact lwG_in (chkW_in q.1), by have q := xd_11_113; rw [Bool.and_eq_true] at q; exact lwG_in (chkW_in q.2), fun w hw => of_decide_eq_true (List.all_eq_true.mp xa_11_117 w hw), fun w hw => of_decide_eq_true (List.all_eq_true.mp xb_11_117 w hw), fun w hw => List.all_eq_true.mp xc_11_117 w hw⟩
set_option maxRecDepth 100000 in
theorem xt_197_37 : xtOK 197 37 2 := ⟨by decide, 113, 263, 117, "the old texts are not the same", true, rfl, rfl, fun h => absurd h (by decide), fun _ => ⟨rfl, rfl, rfl⟩, List.mem_of_getElem? (i := 4) rfl, by have q := xd_11_113; rw [Bool.and_eq_true] at q; exact lwG_in (chkW_in q.1), by have q := xd_11_113; rw [Bool.and_eq_true] at q; exact lwG_in (chkW_in q.2), fun w hw => of_decide_eq_true (List.all_eq_true.mp xa_11_117 w hw), fun w hw => of_decide_eq_true (List.all_eq_true.mp xb_11_117 w hw), fun w hw => List.all_eq_true.mp xc_11_117 w hw⟩
set_option maxRecDepth 100000 in
theorem xt_197_76 : xtOK 197 76 2 := ⟨by decide, 113, 252, 117, "the text would be too long", false, rfl, rfl, fun _ => ⟨rfl, rfl, rfl⟩, fun h => absurd h (by decide), List.mem_of_getElem? (i := 3) rfl, by have q := xd_11_113; rw [Bool.and_eq_true] at q; exact lwG_in (chkW_in q.1), by have q := xd_11_113; rw [Bool.and_eq_true] at q; exact lwG_in (chkW_in q.2), fun w hw => of_decide_eq_true (List.all_eq_true.mp xa_11_117 w hw), fun w hw => of_decide_eq_true (List.all_eq_true.mp xb_11_117 w hw), fun w hw => List.all_eq_true.mp xc_11_117 w hw⟩
set_option maxRecDepth 100000 in
theorem xt_200_16 : xtOK 200 16 2 := ⟨by decide, 113, 282, 117, "the stack has patches", true, rfl, rfl, fun h => absurd h (by decide), fun _ => ⟨rfl, rfl, rfl⟩, List.mem_of_getElem? (i := 5) rfl, by have q := xd_11_113; rw [Bool.and_eq_true] at q; exact lwG_in (chkW_in q.1), by have q := xd_11_113; rw [Bool.and_eq_true] at q; exact lwG_in (chkW_in q.2), fun w hw => of_decide_eq_true (List.all_eq_true.mp xa_11_117 w hw), fun w hw => of_decide_eq_true (List.all_eq_true.mp xb_11_117 w hw), fun w hw => List.all_eq_true.mp xc_11_117 w hw⟩
set_option maxRecDepth 100000 in
theorem xt_201_17 : xtOK 201 17 2 := ⟨by decide, 113, 287, 117, "the stack is full", true, rfl, rfl, fun h => absurd h (by decide), fun _ => ⟨rfl, rfl, rfl⟩, List.mem_of_getElem? (i := 6) rfl, by have q := xd_11_113; rw [Bool.and_eq_true] at q; exact lwG_in (chkW_in q.1), by have q := xd_11_113; rw [Bool.and_eq_true] at q; exact lwG_in (chkW_in q.2), fun w hw => of_decide_eq_true (List.all_eq_true.mp xa_11_117 w hw), fun w hw => of_decide_eq_true (List.all_eq_true.mp xb_11_117 w hw), fun w hw => List.all_eq_true.mp xc_11_117 w hw⟩
set_option maxRecDepth 100000 in
theorem xt_201_45 : xtOK 201 45 2 := ⟨by decide, 113, 293, 117, "the patch has another old text", true, rfl, rfl, fun h => absurd h (by decide), fun _ => ⟨rfl, rfl, rfl⟩, List.mem_of_getElem? (i := 7) rfl, by have q := xd_11_113; rw [Bool.and_eq_true] at q; exact lwG_in (chkW_in q.1), by have q := xd_11_113; rw [Bool.and_eq_true] at q; exact lwG_in (chkW_in q.2), fun w hw => of_decide_eq_true (List.all_eq_true.mp xa_11_117 w hw), fun w hw => of_decide_eq_true (List.all_eq_true.mp xb_11_117 w hw), fun w hw => List.all_eq_true.mp xc_11_117 w hw⟩
set_option maxRecDepth 100000 in
theorem xt_204_34 : xtOK 204 34 2 := ⟨by decide, 113, 190, 117, "they can't be moved past each other", false, rfl, rfl, fun _ => ⟨rfl, rfl, rfl⟩, fun h => absurd h (by decide), List.mem_of_getElem? (i := 1) rfl, by have q := xd_11_113; rw [Bool.and_eq_true] at q; exact lwG_in (chkW_in q.1), by have q := xd_11_113; rw [Bool.and_eq_true] at q; exact lwG_in (chkW_in q.2), fun w hw => of_decide_eq_true (List.all_eq_true.mp xa_11_117 w hw), fun w hw => of_decide_eq_true (List.all_eq_true.mp xb_11_117 w hw), fun w hw => List.all_eq_true.mp xc_11_117 w hw⟩
set_option maxRecDepth 100000 in
theorem xt_206_38 : xtOK 206 38 2 := ⟨by decide, 113, 329, 117, "the line is paired", true, rfl, rfl, fun h => absurd h (by decide), fun _ => ⟨rfl, rfl, rfl⟩, List.mem_of_getElem? (i := 8) rfl, by have q := xd_11_113; rw [Bool.and_eq_true] at q; exact lwG_in (chkW_in q.1), by have q := xd_11_113; rw [Bool.and_eq_true] at q; exact lwG_in (chkW_in q.2), fun w hw => of_decide_eq_true (List.all_eq_true.mp xa_11_117 w hw), fun w hw => of_decide_eq_true (List.all_eq_true.mp xb_11_117 w hw), fun w hw => List.all_eq_true.mp xc_11_117 w hw⟩
set_option maxRecDepth 100000 in
theorem xt_212_11 : xtOK 212 11 2 := ⟨by decide, 113, 338, 117, "the stack has too many patches", true, rfl, rfl, fun h => absurd h (by decide), fun _ => ⟨rfl, rfl, rfl⟩, List.mem_of_getElem? (i := 9) rfl, by have q := xd_11_113; rw [Bool.and_eq_true] at q; exact lwG_in (chkW_in q.1), by have q := xd_11_113; rw [Bool.and_eq_true] at q; exact lwG_in (chkW_in q.2), fun w hw => of_decide_eq_true (List.all_eq_true.mp xa_11_117 w hw), fun w hw => of_decide_eq_true (List.all_eq_true.mp xb_11_117 w hw), fun w hw => List.all_eq_true.mp xc_11_117 w hw⟩
set_option maxRecDepth 100000 in
theorem xt_219_24 : xtOK 219 24 2 := ⟨by decide, 113, 382, 117, "the row is full", true, rfl, rfl, fun h => absurd h (by decide), fun _ => ⟨rfl, rfl, rfl⟩, List.mem_of_getElem? (i := 10) rfl, by have q := xd_11_113; rw [Bool.and_eq_true] at q; exact lwG_in (chkW_in q.1), by have q := xd_11_113; rw [Bool.and_eq_true] at q; exact lwG_in (chkW_in q.2), fun w hw => of_decide_eq_true (List.all_eq_true.mp xa_11_117 w hw), fun w hw => of_decide_eq_true (List.all_eq_true.mp xb_11_117 w hw), fun w hw => List.all_eq_true.mp xc_11_117 w hw⟩
set_option maxRecDepth 100000 in
theorem xt_227_13 : xtOK 227 13 0 := ⟨by decide, 420, 422, 424, "no such text", true, rfl, rfl, fun h => absurd h (by decide), fun _ => ⟨rfl, rfl, rfl⟩, List.mem_of_getElem? (i := 11) rfl, by have q := xd_11_420; rw [Bool.and_eq_true] at q; exact lwG_in (chkW_in q.1), by have q := xd_11_420; rw [Bool.and_eq_true] at q; exact lwG_in (chkW_in q.2), fun w hw => of_decide_eq_true (List.all_eq_true.mp xa_11_424 w hw), fun w hw => of_decide_eq_true (List.all_eq_true.mp xb_11_424 w hw), fun w hw => List.all_eq_true.mp xc_11_424 w hw⟩
set_option maxRecDepth 100000 in
theorem xt_228_13 : xtOK 228 13 0 := ⟨by decide, 420, 425, 424, "no such row", true, rfl, rfl, fun h => absurd h (by decide), fun _ => ⟨rfl, rfl, rfl⟩, List.mem_of_getElem? (i := 12) rfl, by have q := xd_11_420; rw [Bool.and_eq_true] at q; exact lwG_in (chkW_in q.1), by have q := xd_11_420; rw [Bool.and_eq_true] at q; exact lwG_in (chkW_in q.2), fun w hw => of_decide_eq_true (List.all_eq_true.mp xa_11_424 w hw), fun w hw => of_decide_eq_true (List.all_eq_true.mp xb_11_424 w hw), fun w hw => List.all_eq_true.mp xc_11_424 w hw⟩
set_option maxRecDepth 100000 in
theorem xt_229_13 : xtOK 229 13 0 := ⟨by decide, 420, 430, 424, "no such delta", true, rfl, rfl, fun h => absurd h (by decide), fun _ => ⟨rfl, rfl, rfl⟩, List.mem_of_getElem? (i := 13) rfl, by have q := xd_11_420; rw [Bool.and_eq_true] at q; exact lwG_in (chkW_in q.1), by have q := xd_11_420; rw [Bool.and_eq_true] at q; exact lwG_in (chkW_in q.2), fun w hw => of_decide_eq_true (List.all_eq_true.mp xa_11_424 w hw), fun w hw => of_decide_eq_true (List.all_eq_true.mp xb_11_424 w hw), fun w hw => List.all_eq_true.mp xc_11_424 w hw⟩
set_option maxRecDepth 100000 in
theorem xt_230_17 : xtOK 230 17 0 := ⟨by decide, 420, 435, 424, "no such patch", true, rfl, rfl, fun h => absurd h (by decide), fun _ => ⟨rfl, rfl, rfl⟩, List.mem_of_getElem? (i := 14) rfl, by have q := xd_11_420; rw [Bool.and_eq_true] at q; exact lwG_in (chkW_in q.1), by have q := xd_11_420; rw [Bool.and_eq_true] at q; exact lwG_in (chkW_in q.2), fun w hw => of_decide_eq_true (List.all_eq_true.mp xa_11_424 w hw), fun w hw => of_decide_eq_true (List.all_eq_true.mp xb_11_424 w hw), fun w hw => List.all_eq_true.mp xc_11_424 w hw⟩
set_option maxRecDepth 100000 in
theorem xt_231_23 : xtOK 231 23 0 := ⟨by decide, 420, 437, 424, "no such patch of the stack", true, rfl, rfl, fun h => absurd h (by decide), fun _ => ⟨rfl, rfl, rfl⟩, List.mem_of_getElem? (i := 15) rfl, by have q := xd_11_420; rw [Bool.and_eq_true] at q; exact lwG_in (chkW_in q.1), by have q := xd_11_420; rw [Bool.and_eq_true] at q; exact lwG_in (chkW_in q.2), fun w hw => of_decide_eq_true (List.all_eq_true.mp xa_11_424 w hw), fun w hw => of_decide_eq_true (List.all_eq_true.mp xb_11_424 w hw), fun w hw => List.all_eq_true.mp xc_11_424 w hw⟩
set_option maxRecDepth 100000 in
theorem xt_232_9 : xtOK 232 9 0 := ⟨by decide, 420, 439, 424, "no such number or place", true, rfl, rfl, fun h => absurd h (by decide), fun _ => ⟨rfl, rfl, rfl⟩, List.mem_of_getElem? (i := 16) rfl, by have q := xd_11_420; rw [Bool.and_eq_true] at q; exact lwG_in (chkW_in q.1), by have q := xd_11_420; rw [Bool.and_eq_true] at q; exact lwG_in (chkW_in q.2), fun w hw => of_decide_eq_true (List.all_eq_true.mp xa_11_424 w hw), fun w hw => of_decide_eq_true (List.all_eq_true.mp xb_11_424 w hw), fun w hw => List.all_eq_true.mp xc_11_424 w hw⟩
set_option maxRecDepth 100000 in
theorem xt_233_4 : xtOK 233 4 0 := ⟨by decide, 420, 441, 424, "a place below 0", true, rfl, rfl, fun h => absurd h (by decide), fun _ => ⟨rfl, rfl, rfl⟩, List.mem_of_getElem? (i := 17) rfl, by have q := xd_11_420; rw [Bool.and_eq_true] at q; exact lwG_in (chkW_in q.1), by have q := xd_11_420; rw [Bool.and_eq_true] at q; exact lwG_in (chkW_in q.2), fun w hw => of_decide_eq_true (List.all_eq_true.mp xa_11_424 w hw), fun w hw => of_decide_eq_true (List.all_eq_true.mp xb_11_424 w hw), fun w hw => List.all_eq_true.mp xc_11_424 w hw⟩
set_option maxRecDepth 100000 in
theorem xt_234_10 : xtOK 234 10 1 := ⟨by decide, 443, 445, 447, "out of range", true, rfl, rfl, fun h => absurd h (by decide), fun _ => ⟨rfl, rfl, rfl⟩, List.mem_of_getElem? (i := 18) rfl, by have q := xd_11_443; rw [Bool.and_eq_true] at q; exact lwG_in (chkW_in q.1), by have q := xd_11_443; rw [Bool.and_eq_true] at q; exact lwG_in (chkW_in q.2), fun w hw => of_decide_eq_true (List.all_eq_true.mp xa_11_447 w hw), fun w hw => of_decide_eq_true (List.all_eq_true.mp xb_11_447 w hw), fun w hw => List.all_eq_true.mp xc_11_447 w hw⟩
set_option maxRecDepth 100000 in
theorem xt_235_7 : xtOK 235 7 1 := ⟨by decide, 443, 452, 447, "neither a line nor a mark", true, rfl, rfl, fun h => absurd h (by decide), fun _ => ⟨rfl, rfl, rfl⟩, List.mem_of_getElem? (i := 19) rfl, by have q := xd_11_443; rw [Bool.and_eq_true] at q; exact lwG_in (chkW_in q.1), by have q := xd_11_443; rw [Bool.and_eq_true] at q; exact lwG_in (chkW_in q.2), fun w hw => of_decide_eq_true (List.all_eq_true.mp xa_11_447 w hw), fun w hw => of_decide_eq_true (List.all_eq_true.mp xb_11_447 w hw), fun w hw => List.all_eq_true.mp xc_11_447 w hw⟩
set_option maxRecDepth 100000 in
theorem xt_236_14 : xtOK 236 14 1 := ⟨by decide, 443, 454, 447, "no such way", true, rfl, rfl, fun h => absurd h (by decide), fun _ => ⟨rfl, rfl, rfl⟩, List.mem_of_getElem? (i := 20) rfl, by have q := xd_11_443; rw [Bool.and_eq_true] at q; exact lwG_in (chkW_in q.1), by have q := xd_11_443; rw [Bool.and_eq_true] at q; exact lwG_in (chkW_in q.2), fun w hw => of_decide_eq_true (List.all_eq_true.mp xa_11_447 w hw), fun w hw => of_decide_eq_true (List.all_eq_true.mp xb_11_447 w hw), fun w hw => List.all_eq_true.mp xc_11_447 w hw⟩
set_option maxRecDepth 100000 in
theorem xt_237_14 : xtOK 237 14 2 := ⟨by decide, 113, 456, 117, "the second patch has another old text", true, rfl, rfl, fun h => absurd h (by decide), fun _ => ⟨rfl, rfl, rfl⟩, List.mem_of_getElem? (i := 21) rfl, by have q := xd_11_113; rw [Bool.and_eq_true] at q; exact lwG_in (chkW_in q.1), by have q := xd_11_113; rw [Bool.and_eq_true] at q; exact lwG_in (chkW_in q.2), fun w hw => of_decide_eq_true (List.all_eq_true.mp xa_11_117 w hw), fun w hw => of_decide_eq_true (List.all_eq_true.mp xb_11_117 w hw), fun w hw => List.all_eq_true.mp xc_11_117 w hw⟩
set_option maxRecDepth 100000 in
theorem xt_238_11 : xtOK 238 11 2 := ⟨by decide, 113, 458, 117, "the stack has no patch", true, rfl, rfl, fun h => absurd h (by decide), fun _ => ⟨rfl, rfl, rfl⟩, List.mem_of_getElem? (i := 22) rfl, by have q := xd_11_113; rw [Bool.and_eq_true] at q; exact lwG_in (chkW_in q.1), by have q := xd_11_113; rw [Bool.and_eq_true] at q; exact lwG_in (chkW_in q.2), fun w hw => of_decide_eq_true (List.all_eq_true.mp xa_11_117 w hw), fun w hw => of_decide_eq_true (List.all_eq_true.mp xb_11_117 w hw), fun w hw => List.all_eq_true.mp xc_11_117 w hw⟩
set_option maxRecDepth 100000 in
theorem xt_239_12 : xtOK 239 12 2 := ⟨by decide, 113, 460, 117, "there are 10 differences", true, rfl, rfl, fun h => absurd h (by decide), fun _ => ⟨rfl, rfl, rfl⟩, List.mem_of_getElem? (i := 23) rfl, by have q := xd_11_113; rw [Bool.and_eq_true] at q; exact lwG_in (chkW_in q.1), by have q := xd_11_113; rw [Bool.and_eq_true] at q; exact lwG_in (chkW_in q.2), fun w hw => of_decide_eq_true (List.all_eq_true.mp xa_11_117 w hw), fun w hw => of_decide_eq_true (List.all_eq_true.mp xb_11_117 w hw), fun w hw => List.all_eq_true.mp xc_11_117 w hw⟩
set_option maxRecDepth 100000 in
theorem xt_240_12 : xtOK 240 12 2 := ⟨by decide, 113, 463, 117, "there are 10 deltas", true, rfl, rfl, fun h => absurd h (by decide), fun _ => ⟨rfl, rfl, rfl⟩, List.mem_of_getElem? (i := 24) rfl, by have q := xd_11_113; rw [Bool.and_eq_true] at q; exact lwG_in (chkW_in q.1), by have q := xd_11_113; rw [Bool.and_eq_true] at q; exact lwG_in (chkW_in q.2), fun w hw => of_decide_eq_true (List.all_eq_true.mp xa_11_117 w hw), fun w hw => of_decide_eq_true (List.all_eq_true.mp xb_11_117 w hw), fun w hw => List.all_eq_true.mp xc_11_117 w hw⟩
set_option maxRecDepth 100000 in
theorem xt_241_12 : xtOK 241 12 2 := ⟨by decide, 113, 468, 117, "there are too few bytes to copy", true, rfl, rfl, fun h => absurd h (by decide), fun _ => ⟨rfl, rfl, rfl⟩, List.mem_of_getElem? (i := 25) rfl, by have q := xd_11_113; rw [Bool.and_eq_true] at q; exact lwG_in (chkW_in q.1), by have q := xd_11_113; rw [Bool.and_eq_true] at q; exact lwG_in (chkW_in q.2), fun w hw => of_decide_eq_true (List.all_eq_true.mp xa_11_117 w hw), fun w hw => of_decide_eq_true (List.all_eq_true.mp xb_11_117 w hw), fun w hw => List.all_eq_true.mp xc_11_117 w hw⟩
set_option maxRecDepth 100000 in
theorem xt_242_21 : xtOK 242 21 2 := ⟨by decide, 113, 470, 117, "there are 24 patches", true, rfl, rfl, fun h => absurd h (by decide), fun _ => ⟨rfl, rfl, rfl⟩, List.mem_of_getElem? (i := 26) rfl, by have q := xd_11_113; rw [Bool.and_eq_true] at q; exact lwG_in (chkW_in q.1), by have q := xd_11_113; rw [Bool.and_eq_true] at q; exact lwG_in (chkW_in q.2), fun w hw => of_decide_eq_true (List.all_eq_true.mp xa_11_117 w hw), fun w hw => of_decide_eq_true (List.all_eq_true.mp xb_11_117 w hw), fun w hw => List.all_eq_true.mp xc_11_117 w hw⟩
theorem xt_all : ∀ q ∈ zxtT, xtOK q.1.1 q.1.2 q.2.2 := List.forall_mem_cons.mpr ⟨xt_172_34, List.forall_mem_cons.mpr ⟨xt_185_52, List.forall_mem_cons.mpr ⟨xt_186_60, List.forall_mem_cons.mpr ⟨xt_195_36, List.forall_mem_cons.mpr ⟨xt_197_37, List.forall_mem_cons.mpr ⟨xt_197_76, List.forall_mem_cons.mpr ⟨xt_200_16, List.forall_mem_cons.mpr ⟨xt_201_17, List.forall_mem_cons.mpr ⟨xt_201_45, List.forall_mem_cons.mpr ⟨xt_204_34, List.forall_mem_cons.mpr ⟨xt_206_38, List.forall_mem_cons.mpr ⟨xt_212_11, List.forall_mem_cons.mpr ⟨xt_219_24, List.forall_mem_cons.mpr ⟨xt_227_13, List.forall_mem_cons.mpr ⟨xt_228_13, List.forall_mem_cons.mpr ⟨xt_229_13, List.forall_mem_cons.mpr ⟨xt_230_17, List.forall_mem_cons.mpr ⟨xt_231_23, List.forall_mem_cons.mpr ⟨xt_232_9, List.forall_mem_cons.mpr ⟨xt_233_4, List.forall_mem_cons.mpr ⟨xt_234_10, List.forall_mem_cons.mpr ⟨xt_235_7, List.forall_mem_cons.mpr ⟨xt_236_14, List.forall_mem_cons.mpr ⟨xt_237_14, List.forall_mem_cons.mpr ⟨xt_238_11, List.forall_mem_cons.mpr ⟨xt_239_12, List.forall_mem_cons.mpr ⟨xt_240_12, List.forall_mem_cons.mpr ⟨xt_241_12, List.forall_mem_cons.mpr ⟨xt_242_21, fun _ h => absurd h List.not_mem_nil⟩⟩⟩⟩⟩⟩⟩⟩⟩⟩⟩⟩⟩⟩⟩⟩⟩⟩⟩⟩⟩⟩⟩⟩⟩⟩⟩⟩⟩
theorem xt_ok {m pc E : Nat} (h : zxt m pc = some E) : xtOK m pc E := by
  unfold zxt at h
  cases hq : zxtT.lookup (m, pc) with
  | none => rw [hq] at h; cases h
  | some q =>
    rw [hq] at h
    obtain ⟨p, q2⟩ := q
    have e : q2 = E := Option.some.inj h
    subst e
    exact xt_all _ (lkup_mem hq)
