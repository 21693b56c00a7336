def R_law : String := "PatchBenchLaw"
def lw_P (b : Addr) (xs : List Int32) (args : Array Value) (s : State) : Prop := args = #[.ref b] ∧ s.IntsAt b xs ∧ xs.length ≤ 260 ∧ (Jvm.Cond.and given_1 narrow_1).before args s = true
def lw_Q (_ : Array Value) (s : State) (o : Outcome) (t : State) : Prop := o = .returned (some (.int 1)) ∧ Framed s o t [] room_1.cells room_1.slots
def lw_Z (below : List Frame) (a : Array Value) (s : State) : State → Prop := fun t => ∃ o, t.status = .running ∧ Ended t below o ∧ lw_Q a s o t
/-- the law's own end, with 1 on the stack, nothing written that was there before, its room as the claim has it -/
theorem lw_ret {p : Program} {l : Launch} {e : Env} {s : State} {m : MethodId} {below : List Frame} {meth : Method} {c : Code} {b : Nat} (hx : p.tables.exec = Jvm.exec) (hb : c.code = code) (hr : meth.sig.returnType = ret) (hlocks : meth.locks = false) {pc : Nat} {H : Heap} {ls : Array Slot} (hdg : decode code pc = .ok (.ireturn, 1)) : W p l e room_1 s m #[Value.ref b] below meth c H [] room_1.cells room_1.slots (lw_Z below #[Value.ref b] s) (F0 m pc ls [.int 1]) := by
  intro T hT X
  obtain ⟨fs, hret, hrun, hended, hW, hframe⟩ := X.leave (v := some (.int 1)) (hlocks := hlocks) (fun h => by rw [hr] at h; cases h)
  have hmeth' : T.vm.method? m = some meth := X.method'
  refine ⟨T.setFrames fs, ?_, .returned (some (.int 1)), hrun, hended, rfl, ⟨_, rfl⟩, hW, hframe⟩
  jvm_step X.here [X.here.top, hx, hb, hdg, hmeth', hr, ret, narrow_b1]
  (try refine ⟨rfl, ?_⟩); (try refine ⟨rfl, ?_⟩)
  first | (intro acts; rw [hret _ acts rfl rfl rfl]) | rw [hret _ _ rfl rfl rfl]
  exact Steps.refl _
/-- what holds at the law's entry: the machine, the code, the tables' words (any of lw_tbl by 'hts w (by decide +kernel)'), the script of L ints xs at the cell b, what the Statement gives of the start (any of its parts by flat_of_before) -/
def lw_At (p : Program) (s : State) (m : MethodId) (meth : Method) (c : Code) (b L : Nat) (xs : Nat → Int32) : Prop :=
  p.tables.exec = Jvm.exec ∧ c.code = code ∧ meth.sig.returnType = ret ∧ c.maxLocals = 7 ∧ s.vm.findClass R_law = some m.cls ∧ (∀ w ∈ lw_tbl, w.before #[Value.ref b] s = true) ∧ va_X b L xs s s.heap ∧ b < s.heap.size ∧ meth.locks = false ∧ (Jvm.Cond.and given_1 narrow_1).before #[Value.ref b] s = true

theorem kcast_0 : lw_tbl[555]? = some (.castable (exS 0) (exS 0)) := by decide +kernel
theorem kcast_1 : lw_tbl[450]? = some (.castable (exS 1) (exS 1)) := by decide +kernel
theorem kcast_2 : lw_tbl[583]? = some (.castable (exS 2) (exS 2)) := by decide +kernel
theorem kdec_0 : lw_tbl[452]? = exD[0]? := by decide +kernel
theorem kdec_1 : lw_tbl[454]? = exD[1]? := by decide +kernel
theorem kdec_2 : lw_tbl[456]? = exD[2]? := by decide +kernel
set_option maxRecDepth 100000 in
theorem knc_0_2 : Cond.not (.castable (exS 0) (exS 2)) ∈ flatC (Jvm.Cond.and given_1 narrow_1) := by decide +kernel
set_option maxRecDepth 100000 in
theorem knc_1_2 : Cond.not (.castable (exS 1) (exS 2)) ∈ flatC (Jvm.Cond.and given_1 narrow_1) := by decide +kernel
theorem kao_Row : lw_tbl[105]? = some (.arrayOver (.object "PatchBench$Row")) := by decide +kernel
theorem kao_Patch : lw_tbl[124]? = some (.arrayOver (.object "PatchBench$Patch")) := by decide +kernel
theorem kst_0 : lw_tbl[775]? = some (.stringRef "PatchBench" 115 "the text is full") := by decide +kernel
set_option maxRecDepth 100000 in
theorem kse_0 : Cond.exactly (.string "PatchBench" 115) "java/lang/String" ∈ flatC (Jvm.Cond.and given_1 narrow_1) := by decide +kernel
theorem kst_1 : lw_tbl[1194]? = some (.stringRef "PatchBench" 190 "they can't be moved past each other") := by decide +kernel
set_option maxRecDepth 100000 in
theorem kse_1 : Cond.exactly (.string "PatchBench" 190) "java/lang/String" ∈ flatC (Jvm.Cond.and given_1 narrow_1) := by decide +kernel
theorem kst_2 : lw_tbl[1162]? = some (.stringRef "PatchBench" 216 "the text between the parts is too long") := by decide +kernel
set_option maxRecDepth 100000 in
theorem kse_2 : Cond.exactly (.string "PatchBench" 216) "java/lang/String" ∈ flatC (Jvm.Cond.and given_1 narrow_1) := by decide +kernel
theorem kst_3 : lw_tbl[1110]? = some (.stringRef "PatchBench" 252 "the text would be too long") := by decide +kernel
set_option maxRecDepth 100000 in
theorem kse_3 : Cond.exactly (.string "PatchBench" 252) "java/lang/String" ∈ flatC (Jvm.Cond.and given_1 narrow_1) := by decide +kernel
theorem kst_4 : lw_tbl[1222]? = some (.stringRef "PatchBench" 263 "the old texts are not the same") := by decide +kernel
set_option maxRecDepth 100000 in
theorem kse_4 : Cond.exactly (.string "PatchBench" 263) "java/lang/String" ∈ flatC (Jvm.Cond.and given_1 narrow_1) := by decide +kernel
theorem kst_5 : lw_tbl[1305]? = some (.stringRef "PatchBench" 282 "the stack has patches") := by decide +kernel
set_option maxRecDepth 100000 in
theorem kse_5 : Cond.exactly (.string "PatchBench" 282) "java/lang/String" ∈ flatC (Jvm.Cond.and given_1 narrow_1) := by decide +kernel
theorem kst_6 : lw_tbl[1316]? = some (.stringRef "PatchBench" 287 "the stack is full") := by decide +kernel
set_option maxRecDepth 100000 in
theorem kse_6 : Cond.exactly (.string "PatchBench" 287) "java/lang/String" ∈ flatC (Jvm.Cond.and given_1 narrow_1) := by decide +kernel
theorem kst_7 : lw_tbl[1317]? = some (.stringRef "PatchBench" 293 "the patch has another old text") := by decide +kernel
set_option maxRecDepth 100000 in
theorem kse_7 : Cond.exactly (.string "PatchBench" 293) "java/lang/String" ∈ flatC (Jvm.Cond.and given_1 narrow_1) := by decide +kernel
theorem kst_8 : lw_tbl[1400]? = some (.stringRef "PatchBench" 329 "the line is paired") := by decide +kernel
set_option maxRecDepth 100000 in
theorem kse_8 : Cond.exactly (.string "PatchBench" 329) "java/lang/String" ∈ flatC (Jvm.Cond.and given_1 narrow_1) := by decide +kernel
theorem kst_9 : lw_tbl[590]? = some (.stringRef "PatchBench" 338 "the stack has too many patches") := by decide +kernel
set_option maxRecDepth 100000 in
theorem kse_9 : Cond.exactly (.string "PatchBench" 338) "java/lang/String" ∈ flatC (Jvm.Cond.and given_1 narrow_1) := by decide +kernel
theorem kst_10 : lw_tbl[1577]? = some (.stringRef "PatchBench" 382 "the row is full") := by decide +kernel
set_option maxRecDepth 100000 in
theorem kse_10 : Cond.exactly (.string "PatchBench" 382) "java/lang/String" ∈ flatC (Jvm.Cond.and given_1 narrow_1) := by decide +kernel
theorem kst_11 : lw_tbl[749]? = some (.stringRef "PatchBench" 422 "no such text") := by decide +kernel
set_option maxRecDepth 100000 in
theorem kse_11 : Cond.exactly (.string "PatchBench" 422) "java/lang/String" ∈ flatC (Jvm.Cond.and given_1 narrow_1) := by decide +kernel
theorem kst_12 : lw_tbl[1567]? = some (.stringRef "PatchBench" 425 "no such row") := by decide +kernel
set_option maxRecDepth 100000 in
theorem kse_12 : Cond.exactly (.string "PatchBench" 425) "java/lang/String" ∈ flatC (Jvm.Cond.and given_1 narrow_1) := by decide +kernel
theorem kst_13 : lw_tbl[1595]? = some (.stringRef "PatchBench" 430 "no such delta") := by decide +kernel
set_option maxRecDepth 100000 in
theorem kse_13 : Cond.exactly (.string "PatchBench" 430) "java/lang/String" ∈ flatC (Jvm.Cond.and given_1 narrow_1) := by decide +kernel
theorem kst_14 : lw_tbl[983]? = some (.stringRef "PatchBench" 435 "no such patch") := by decide +kernel
set_option maxRecDepth 100000 in
theorem kse_14 : Cond.exactly (.string "PatchBench" 435) "java/lang/String" ∈ flatC (Jvm.Cond.and given_1 narrow_1) := by decide +kernel
theorem kst_15 : lw_tbl[1383]? = some (.stringRef "PatchBench" 437 "no such patch of the stack") := by decide +kernel
set_option maxRecDepth 100000 in
theorem kse_15 : Cond.exactly (.string "PatchBench" 437) "java/lang/String" ∈ flatC (Jvm.Cond.and given_1 narrow_1) := by decide +kernel
theorem kst_16 : lw_tbl[762]? = some (.stringRef "PatchBench" 439 "no such number or place") := by decide +kernel
set_option maxRecDepth 100000 in
theorem kse_16 : Cond.exactly (.string "PatchBench" 439) "java/lang/String" ∈ flatC (Jvm.Cond.and given_1 narrow_1) := by decide +kernel
theorem kst_17 : lw_tbl[562]? = some (.stringRef "PatchBench" 441 "a place below 0") := by decide +kernel
set_option maxRecDepth 100000 in
theorem kse_17 : Cond.exactly (.string "PatchBench" 441) "java/lang/String" ∈ flatC (Jvm.Cond.and given_1 narrow_1) := by decide +kernel
theorem kst_18 : lw_tbl[1000]? = some (.stringRef "PatchBench" 445 "out of range") := by decide +kernel
set_option maxRecDepth 100000 in
theorem kse_18 : Cond.exactly (.string "PatchBench" 445) "java/lang/String" ∈ flatC (Jvm.Cond.and given_1 narrow_1) := by decide +kernel
theorem kst_19 : lw_tbl[489]? = some (.stringRef "PatchBench" 452 "neither a line nor a mark") := by decide +kernel
set_option maxRecDepth 100000 in
theorem kse_19 : Cond.exactly (.string "PatchBench" 452) "java/lang/String" ∈ flatC (Jvm.Cond.and given_1 narrow_1) := by decide +kernel
theorem kst_20 : lw_tbl[802]? = some (.stringRef "PatchBench" 454 "no such way") := by decide +kernel
set_option maxRecDepth 100000 in
theorem kse_20 : Cond.exactly (.string "PatchBench" 454) "java/lang/String" ∈ flatC (Jvm.Cond.and given_1 narrow_1) := by decide +kernel
theorem kst_21 : lw_tbl[1191]? = some (.stringRef "PatchBench" 456 "the second patch has another old text") := by decide +kernel
set_option maxRecDepth 100000 in
theorem kse_21 : Cond.exactly (.string "PatchBench" 456) "java/lang/String" ∈ flatC (Jvm.Cond.and given_1 narrow_1) := by decide +kernel
theorem kst_22 : lw_tbl[1332]? = some (.stringRef "PatchBench" 458 "the stack has no patch") := by decide +kernel
set_option maxRecDepth 100000 in
theorem kse_22 : Cond.exactly (.string "PatchBench" 458) "java/lang/String" ∈ flatC (Jvm.Cond.and given_1 narrow_1) := by decide +kernel
theorem kst_23 : lw_tbl[1488]? = some (.stringRef "PatchBench" 460 "there are 10 differences") := by decide +kernel
set_option maxRecDepth 100000 in
theorem kse_23 : Cond.exactly (.string "PatchBench" 460) "java/lang/String" ∈ flatC (Jvm.Cond.and given_1 narrow_1) := by decide +kernel
theorem kst_24 : lw_tbl[1626]? = some (.stringRef "PatchBench" 463 "there are 10 deltas") := by decide +kernel
set_option maxRecDepth 100000 in
theorem kse_24 : Cond.exactly (.string "PatchBench" 463) "java/lang/String" ∈ flatC (Jvm.Cond.and given_1 narrow_1) := by decide +kernel
theorem kst_25 : lw_tbl[1610]? = some (.stringRef "PatchBench" 468 "there are too few bytes to copy") := by decide +kernel
set_option maxRecDepth 100000 in
theorem kse_25 : Cond.exactly (.string "PatchBench" 468) "java/lang/String" ∈ flatC (Jvm.Cond.and given_1 narrow_1) := by decide +kernel
theorem kst_26 : lw_tbl[966]? = some (.stringRef "PatchBench" 470 "there are 24 patches") := by decide +kernel
set_option maxRecDepth 100000 in
theorem kse_26 : Cond.exactly (.string "PatchBench" 470) "java/lang/String" ∈ flatC (Jvm.Cond.and given_1 narrow_1) := by decide +kernel
theorem kls_0 : lw_tbl[475]? = some (.laysStatic Bundle.tN "UNASSIGNED_STACK" Bundle.steD) := by decide +kernel
theorem kls_1 : lw_tbl[477]? = some (.laysStatic Bundle.tN "SUPPRESSED_SENTINEL" Bundle.listD) := by decide +kernel
theorem kls_2 : lw_tbl[82]? = some (.initialized Bundle.tN) := by decide +kernel
set_option maxRecDepth 100000 in
theorem kir_0 : Cond.isRef (.static Bundle.tN "UNASSIGNED_STACK" Bundle.steD) ∈ flatC (Jvm.Cond.and given_1 narrow_1) := by decide +kernel
set_option maxRecDepth 100000 in
theorem kir_1 : Cond.isRef (.static Bundle.tN "SUPPRESSED_SENTINEL" Bundle.listD) ∈ flatC (Jvm.Cond.and given_1 narrow_1) := by decide +kernel
/-- what the tables know, at the law's entry -/
theorem kx_of {s : State} {args : Array Value} (hts : ∀ w ∈ lw_tbl, w.before args s = true) (hgv : (Jvm.Cond.and given_1 narrow_1).before args s = true) : ∃ (D : va_G) (cA : Nat → ClassId), KX D cA s := by
  have hg := flat_of_before _ hgv
  have hcl : ∀ ci : Nat, ∃ q : ClassId × (Nat → Nat), ∀ r, vwCl[ci]? = some r → u_Kn s r.1 r.2.1 r.2.2 q.1 q.2 := by
    intro ci
    cases hz : vwCl[ci]? with
    | none => exact ⟨(0, fun _ => 0), fun r h => by cases h⟩
    | some r =>
      obtain ⟨C, T, N⟩ := r
      obtain ⟨c1, c2, -⟩ := cls_in hz
      obtain ⟨cC, iS, hk⟩ := u_known (C := C) (T := T) (N := N) (n := N) hts (fun w hw => (lwG_of (c1 w hw)).1) (hts _ (lwG_of c2).1)
      exact ⟨(cC, iS), fun r h => by cases h; exact hk⟩
  obtain ⟨f, hf⟩ := Classical.axiomOfChoice hcl
  obtain ⟨ci, ki, compi, i1, i2, i3⟩ := Cond.arrayClass_spec (args := args) (first := s) (o := none) (s := s) (idx := []) (hts _ (chkW_in js_ai).1)
  obtain ⟨cj, kj, compj, j1, j2, j3⟩ := Cond.arrayClass_spec (args := args) (first := s) (o := none) (s := s) (idx := []) (hts _ (chkW_in js_ai).1)
  obtain ⟨cz, kz, compz, z1, z2, z3⟩ := Cond.arrayClass_spec (args := args) (first := s) (o := none) (s := s) (idx := []) (hts _ (chkW_in js_az).1)
  obtain ⟨compr, cr, kr, r1, r2, r3, r4, r5⟩ := Cond.arrayOver_spec (args := args) (first := s) (o := none) (s := s) (idx := []) (hts _ (List.mem_of_getElem? kao_Row))
  obtain ⟨compp, cp, kp, p1, p2, p3, p4, p5⟩ := Cond.arrayOver_spec (args := args) (first := s) (o := none) (s := s) (idx := []) (hts _ (List.mem_of_getElem? kao_Patch))
  refine ⟨(fun k => (f k).1, fun k => (f k).2), fun k => match k with | 0 => ci | 1 => cj | 2 => cz | 3 => cr | _ => cp, ⟨fun c q hq => hf c q hq, fun k q hk => ?_⟩, va_AO.of (hts _ (List.mem_of_getElem? kao_Row)), va_AO.of (hts _ (List.mem_of_getElem? kao_Patch)), fun E hE => ?_, fun w hw => ?_, fun E E' h1 h2 h3 => ?_, fun q hq => ?_, fun w hw hgw => word_at (State.WarmedH.refl s) (good_of_word hgw) (hts w hw)⟩
  · match k, hk with
    | 0, hk => cases hk; exact ⟨fun n z => ⟨fun k h => (by cases h), ki, i2, compi, i3⟩, i1⟩
    | 1, hk => cases hk; exact ⟨fun n z => ⟨fun k h => (by cases h), kj, j2, compj, j3⟩, j1⟩
    | 2, hk => cases hk; exact ⟨fun n z => ⟨fun k h => (by cases h), kz, z2, compz, z3⟩, z1⟩
    | 3, hk => cases hk; exact ⟨fun n z => ⟨fun k h => (by cases h), kr, r3, compr, r4⟩, kr, compr, r3, r4, r1, r5⟩
    | 4, hk => cases hk; exact ⟨fun n z => ⟨fun k h => (by cases h), kp, p3, compp, p4⟩, kp, compp, p3, p4, p1, p5⟩
    | k + 5, hk => simp [tyL] at hk
  · match E, hE with
    | 0, _ => exact va_Nw.of rfl (hts _ (List.mem_of_getElem? kcast_0))
    | 1, _ => exact va_Nw.of rfl (hts _ (List.mem_of_getElem? kcast_1))
    | 2, _ => exact va_Nw.of rfl (hts _ (List.mem_of_getElem? kcast_2))
    | q + 3, h => exact absurd h (by omega)
  · simp only [exD, List.mem_cons, List.not_mem_nil, or_false] at hw
    rcases hw with rfl | rfl | rfl
    · exact va_Nw.of rfl (hts _ (List.mem_of_getElem? (kdec_0.trans rfl)))
    · exact va_Nw.of rfl (hts _ (List.mem_of_getElem? (kdec_1.trans rfl)))
    · exact va_Nw.of rfl (hts _ (List.mem_of_getElem? (kdec_2.trans rfl)))
  · subst h2
    match E, h1, h3 with
    | 0, _, _ => exact va_Nc.of (hg _ knc_0_2)
    | 1, _, _ => exact va_Nc.of (hg _ knc_1_2)
    | 2, _, h => exact absurd rfl h
    | q + 3, h, _ => exact absurd h (by omega)
  · simp only [strT, List.mem_cons, List.not_mem_nil, or_false] at hq
    rcases hq with rfl | rfl | rfl | rfl | rfl | rfl | rfl | rfl | rfl | rfl | rfl | rfl | rfl | rfl | rfl | rfl | rfl | rfl | rfl | rfl | rfl | rfl | rfl | rfl | rfl | rfl | rfl
    · obtain ⟨a, c, cA, kA, q1, -⟩ := Cond.exactly_spec (args := args) (first := s) (o := none) (s := s) (idx := []) (t := .string "PatchBench" 115) (cls := "java/lang/String") (hg _ kse_0)
      exact ⟨a, vk_R.of (hts _ (List.mem_of_getElem? kst_0)) q1⟩
    · obtain ⟨a, c, cA, kA, q1, -⟩ := Cond.exactly_spec (args := args) (first := s) (o := none) (s := s) (idx := []) (t := .string "PatchBench" 190) (cls := "java/lang/String") (hg _ kse_1)
      exact ⟨a, vk_R.of (hts _ (List.mem_of_getElem? kst_1)) q1⟩
    · obtain ⟨a, c, cA, kA, q1, -⟩ := Cond.exactly_spec (args := args) (first := s) (o := none) (s := s) (idx := []) (t := .string "PatchBench" 216) (cls := "java/lang/String") (hg _ kse_2)
      exact ⟨a, vk_R.of (hts _ (List.mem_of_getElem? kst_2)) q1⟩
    · obtain ⟨a, c, cA, kA, q1, -⟩ := Cond.exactly_spec (args := args) (first := s) (o := none) (s := s) (idx := []) (t := .string "PatchBench" 252) (cls := "java/lang/String") (hg _ kse_3)
      exact ⟨a, vk_R.of (hts _ (List.mem_of_getElem? kst_3)) q1⟩
    · obtain ⟨a, c, cA, kA, q1, -⟩ := Cond.exactly_spec (args := args) (first := s) (o := none) (s := s) (idx := []) (t := .string "PatchBench" 263) (cls := "java/lang/String") (hg _ kse_4)
      exact ⟨a, vk_R.of (hts _ (List.mem_of_getElem? kst_4)) q1⟩
    · obtain ⟨a, c, cA, kA, q1, -⟩ := Cond.exactly_spec (args := args) (first := s) (o := none) (s := s) (idx := []) (t := .string "PatchBench" 282) (cls := "java/lang/String") (hg _ kse_5)
      exact ⟨a, vk_R.of (hts _ (List.mem_of_getElem? kst_5)) q1⟩
    · obtain ⟨a, c, cA, kA, q1, -⟩ := Cond.exactly_spec (args := args) (first := s) (o := none) (s := s) (idx := []) (t := .string "PatchBench" 287) (cls := "java/lang/String") (hg _ kse_6)
      exact ⟨a, vk_R.of (hts _ (List.mem_of_getElem? kst_6)) q1⟩
    · obtain ⟨a, c, cA, kA, q1, -⟩ := Cond.exactly_spec (args := args) (first := s) (o := none) (s := s) (idx := []) (t := .string "PatchBench" 293) (cls := "java/lang/String") (hg _ kse_7)
      exact ⟨a, vk_R.of (hts _ (List.mem_of_getElem? kst_7)) q1⟩
    · obtain ⟨a, c, cA, kA, q1, -⟩ := Cond.exactly_spec (args := args) (first := s) (o := none) (s := s) (idx := []) (t := .string "PatchBench" 329) (cls := "java/lang/String") (hg _ kse_8)
      exact ⟨a, vk_R.of (hts _ (List.mem_of_getElem? kst_8)) q1⟩
    · obtain ⟨a, c, cA, kA, q1, -⟩ := Cond.exactly_spec (args := args) (first := s) (o := none) (s := s) (idx := []) (t := .string "PatchBench" 338) (cls := "java/lang/String") (hg _ kse_9)
      exact ⟨a, vk_R.of (hts _ (List.mem_of_getElem? kst_9)) q1⟩
    · obtain ⟨a, c, cA, kA, q1, -⟩ := Cond.exactly_spec (args := args) (first := s) (o := none) (s := s) (idx := []) (t := .string "PatchBench" 382) (cls := "java/lang/String") (hg _ kse_10)
      exact ⟨a, vk_R.of (hts _ (List.mem_of_getElem? kst_10)) q1⟩
    · obtain ⟨a, c, cA, kA, q1, -⟩ := Cond.exactly_spec (args := args) (first := s) (o := none) (s := s) (idx := []) (t := .string "PatchBench" 422) (cls := "java/lang/String") (hg _ kse_11)
      exact ⟨a, vk_R.of (hts _ (List.mem_of_getElem? kst_11)) q1⟩
    · obtain ⟨a, c, cA, kA, q1, -⟩ := Cond.exactly_spec (args := args) (first := s) (o := none) (s := s) (idx := []) (t := .string "PatchBench" 425) (cls := "java/lang/String") (hg _ kse_12)
      exact ⟨a, vk_R.of (hts _ (List.mem_of_getElem? kst_12)) q1⟩
    · obtain ⟨a, c, cA, kA, q1, -⟩ := Cond.exactly_spec (args := args) (first := s) (o := none) (s := s) (idx := []) (t := .string "PatchBench" 430) (cls := "java/lang/String") (hg _ kse_13)
      exact ⟨a, vk_R.of (hts _ (List.mem_of_getElem? kst_13)) q1⟩
    · obtain ⟨a, c, cA, kA, q1, -⟩ := Cond.exactly_spec (args := args) (first := s) (o := none) (s := s) (idx := []) (t := .string "PatchBench" 435) (cls := "java/lang/String") (hg _ kse_14)
      exact ⟨a, vk_R.of (hts _ (List.mem_of_getElem? kst_14)) q1⟩
    · obtain ⟨a, c, cA, kA, q1, -⟩ := Cond.exactly_spec (args := args) (first := s) (o := none) (s := s) (idx := []) (t := .string "PatchBench" 437) (cls := "java/lang/String") (hg _ kse_15)
      exact ⟨a, vk_R.of (hts _ (List.mem_of_getElem? kst_15)) q1⟩
    · obtain ⟨a, c, cA, kA, q1, -⟩ := Cond.exactly_spec (args := args) (first := s) (o := none) (s := s) (idx := []) (t := .string "PatchBench" 439) (cls := "java/lang/String") (hg _ kse_16)
      exact ⟨a, vk_R.of (hts _ (List.mem_of_getElem? kst_16)) q1⟩
    · obtain ⟨a, c, cA, kA, q1, -⟩ := Cond.exactly_spec (args := args) (first := s) (o := none) (s := s) (idx := []) (t := .string "PatchBench" 441) (cls := "java/lang/String") (hg _ kse_17)
      exact ⟨a, vk_R.of (hts _ (List.mem_of_getElem? kst_17)) q1⟩
    · obtain ⟨a, c, cA, kA, q1, -⟩ := Cond.exactly_spec (args := args) (first := s) (o := none) (s := s) (idx := []) (t := .string "PatchBench" 445) (cls := "java/lang/String") (hg _ kse_18)
      exact ⟨a, vk_R.of (hts _ (List.mem_of_getElem? kst_18)) q1⟩
    · obtain ⟨a, c, cA, kA, q1, -⟩ := Cond.exactly_spec (args := args) (first := s) (o := none) (s := s) (idx := []) (t := .string "PatchBench" 452) (cls := "java/lang/String") (hg _ kse_19)
      exact ⟨a, vk_R.of (hts _ (List.mem_of_getElem? kst_19)) q1⟩
    · obtain ⟨a, c, cA, kA, q1, -⟩ := Cond.exactly_spec (args := args) (first := s) (o := none) (s := s) (idx := []) (t := .string "PatchBench" 454) (cls := "java/lang/String") (hg _ kse_20)
      exact ⟨a, vk_R.of (hts _ (List.mem_of_getElem? kst_20)) q1⟩
    · obtain ⟨a, c, cA, kA, q1, -⟩ := Cond.exactly_spec (args := args) (first := s) (o := none) (s := s) (idx := []) (t := .string "PatchBench" 456) (cls := "java/lang/String") (hg _ kse_21)
      exact ⟨a, vk_R.of (hts _ (List.mem_of_getElem? kst_21)) q1⟩
    · obtain ⟨a, c, cA, kA, q1, -⟩ := Cond.exactly_spec (args := args) (first := s) (o := none) (s := s) (idx := []) (t := .string "PatchBench" 458) (cls := "java/lang/String") (hg _ kse_22)
      exact ⟨a, vk_R.of (hts _ (List.mem_of_getElem? kst_22)) q1⟩
    · obtain ⟨a, c, cA, kA, q1, -⟩ := Cond.exactly_spec (args := args) (first := s) (o := none) (s := s) (idx := []) (t := .string "PatchBench" 460) (cls := "java/lang/String") (hg _ kse_23)
      exact ⟨a, vk_R.of (hts _ (List.mem_of_getElem? kst_23)) q1⟩
    · obtain ⟨a, c, cA, kA, q1, -⟩ := Cond.exactly_spec (args := args) (first := s) (o := none) (s := s) (idx := []) (t := .string "PatchBench" 463) (cls := "java/lang/String") (hg _ kse_24)
      exact ⟨a, vk_R.of (hts _ (List.mem_of_getElem? kst_24)) q1⟩
    · obtain ⟨a, c, cA, kA, q1, -⟩ := Cond.exactly_spec (args := args) (first := s) (o := none) (s := s) (idx := []) (t := .string "PatchBench" 468) (cls := "java/lang/String") (hg _ kse_25)
      exact ⟨a, vk_R.of (hts _ (List.mem_of_getElem? kst_25)) q1⟩
    · obtain ⟨a, c, cA, kA, q1, -⟩ := Cond.exactly_spec (args := args) (first := s) (o := none) (s := s) (idx := []) (t := .string "PatchBench" 470) (cls := "java/lang/String") (hg _ kse_26)
      exact ⟨a, vk_R.of (hts _ (List.mem_of_getElem? kst_26)) q1⟩
/-- the start's numbers: the script, and nothing else -/
def sig0 (Ls : Nat) (scr : Nat → Int) : Nat → Nat → Int := fun a k => if a = SCR then (if k < Ls then scr k else 0) else if a = SCR + 1 ∧ k = 0 then (Ls : Int) else 0
theorem M0_code : zM_b 0 = code := rfl
/-- the walk of the law's body out of one zrun of the interpreter -/
theorem start_of_run (hD : DecOK) (hrun : ∀ (Ls : Nat) (scr : Nat → Int), Ls ≤ 260 → (∀ j, inR (scr j) = true) → ∃ (nf : Nat) (h' : HP), zrun nf 0 (zentryF 0 [.inr (.inr (some SCR))] ([], sig0 Ls scr)) = some (.inl (some (.inl 1)), h')) {p : Program} {e : Env} {s : State} {m : MethodId} {below : List Frame} {meth : Method} {c : Code} (l : Launch) (hflags : l.flags = flags0) {b L : Nat} {xs : Nat → Int32} (hL : L ≤ 260) (C0 : lw_At p s m meth c b L xs) : W p l e room_1 s m #[Value.ref b] below meth c s.heap [] 0 0 (lw_Z below #[Value.ref b] s) (entryFrame m ([Value.ref b] : List Value).toArray 7) := by
  obtain ⟨hx, hb, hr, hml, hown, hts, hX, hbl, hlocks, hgv⟩ := C0
  have hl : l.stackTraces = false := by unfold Launch.stackTraces; rw [hflags]; decide
  have hg := flat_of_before _ hgv
  obtain ⟨D, cA, hK⟩ := kx_of hts hgv
  obtain ⟨nf, h', hrun⟩ := hrun L (fun j => (xs j).toInt) hL (fun j => jI_of _)
  have hA : ∀ a : Nat, a < s.heap.size → ¬ aS s.heap.size a := fun a h => Nat.not_le.mpr h
  have hH : HX s.heap.size b L xs s s.heap := ⟨vx_Zqof (hts _ (List.mem_of_getElem? kls_0)) (hts _ (List.mem_of_getElem? kls_2)) (hg _ kir_0) hA, vx_Zqof (hts _ (List.mem_of_getElem? kls_1)) (hts _ (List.mem_of_getElem? kls_2)) (hg _ kir_1) hA, hX, hbl, Nat.le_refl _⟩
  have C : CX p l room_1 s m #[Value.ref b] meth c D cA s.heap.size b L xs 0 := ⟨hx, hb, hml, hown, fun w hw _ => hts w hw, ⟨hlocks, Or.inl rfl, hr⟩, fun h => absurd h (by decide), hl, rfl, hK, hH⟩
  have hfin : FIN p l e room_1 s m #[Value.ref b] below meth c (lw_Z below #[Value.ref b] s) D cA s.heap.size b L xs (fun _ => b) 0 0 (.inl (some (.inl 1)), h') := by
    intro pc i ad H locs ls k n hd hri hw hv hS hk hn hsz
    have hi : i = .ireturn := by
      rcases hri with ⟨q, -⟩ | ⟨-, -, r, q⟩ | ⟨-, -, q⟩
      · exact q
      · cases q
      · cases q
    subst hi
    refine va_forget (fun q hq => hS.2.2 q hq) ?_
    exact W.widen hk hn (lw_ret hx hb hr hlocks hd)
  rw [lg_entry_eq]
  have hl9 := lv_entry ([.ref b]) (n := 7) (Nat.le_of_ble_eq_true rfl)
  generalize (lg_sl ([.ref b]) ++ List.replicate (7 - (lg_sl ([.ref b])).length) Slot.unset).toArray = ls at hl9 ⊢
  have hg0 := run_sound l hl hD D cA s.heap.size b L xs nf 0 _ _ hrun p e room_1 s m #[Value.ref b] below meth c _ (fun _ => b) 0 C hfin
  refine hg0 (fun _ => b) s.heap [] ls ⟨?_, rfl, ?_, fun v hv => absurd hv List.not_mem_nil, ⟨fun a k => ?_, fun a _ h2 k => ?_, Nat.zero_le _, fun s' hs => absurd hs List.not_mem_nil⟩, ⟨fun j hj => ?_, ?_⟩, fun k q h => by have h : ([] : va_W)[k]? = some q := h; simp at h, ⟨fun i j p q h => by have h : ([] : va_W)[i]? = some p := h; simp at h, fun k q h => by have h : ([] : va_W)[k]? = some q := h; simp at h⟩, va_S.rf, rfl, Nat.le_refl _, fun a h => absurd h (Nat.not_lt_zero _)⟩ (Nat.zero_le _) (Nat.zero_le _)
  · exact hl9
  · intro v hv
    have e1 : v = .inr (.inr (some SCR)) := by
      simp only [zentryF, List.map_cons, List.map_nil, List.cons_append, List.nil_append] at hv
      rcases List.mem_cons.mp hv with q | q
      · exact Option.some.inj q
      · exact absurd (List.eq_of_mem_replicate q) (by simp)
    subst e1
    exact ⟨fun a h => by cases h; exact Or.inr rfl, rfl⟩
  · show inR (sig0 L (fun j => (xs j).toInt) a k) = true
    unfold sig0
    split
    · split
      · exact jI_of _
      · rfl
    · split
      · exact inR_iff.mpr ⟨by omega, by omega⟩
      · rfl
  · show sig0 L (fun j => (xs j).toInt) a k = 0
    unfold sig0
    rw [if_neg (by omega), if_neg (by omega)]
  · show xs j = Int32.ofInt (sig0 L (fun j => (xs j).toInt) SCR j)
    unfold sig0
    rw [if_pos rfl, if_pos hj, Int32.ofInt_toInt]
  · show sig0 L (fun j => (xs j).toInt) (SCR + 1) 0 = _
    unfold sig0
    rw [if_neg (by omega), if_pos ⟨rfl, rfl⟩]
