/-! ===== BEGIN a constructor that throws (launches without stack traces) ===== -/
section VXIA
variable {p : Program} {l : Launch} {e : Env} {R : Room} {s : State} {m : MethodId} {args : Array Value} {below : List Frame} {meth : Method} {c : Code} {T : State} {locs : List Loc} {cells slots : Nat}
theorem vx_callI (X : Stand p l e R s m args below meth c T locs cells slots) (hexec : p.tables.exec = Jvm.exec) {own : String} {index : Nat} {y : MethodName} {bytes : ByteArray} {maxL : Nat}
    (hown : s.vm.findClass own = some m.cls) (hy1 : y.name = "<init>") (hlink : (Cond.methodLink own index y).before args s = true) (hinst : (Cond.instanceMethod y).before args s = true)
    (hcode : (Cond.code y bytes maxL none).before args s = true) (hy : y.cls ≠ "java/lang/invoke/MethodHandle" ∧ y.cls ≠ "java/lang/invoke/VarHandle")
    {W9 : Nat} {Pre : Pt → Array Value → Prop} {Post : Pt → Array Value → Option Value → Pt → Prop} {PostX : Pt → Array Value → Addr → Pt → Prop} (hK : vx_Back l R p e below s args y 3 W9 Pre Post PostX)
    {g : JFrame} (hg : g.method = m) (hsize : g.locals.size = c.maxLocals) {a : Addr} {argsL rest : List Value} (hlen : ∀ sig, parseMethodDescriptor y.desc = some sig → argsL.length = sig.parameters.length)
    (hstack : g.stack = argsL.reverse ++ .ref a :: rest) (hW : 2 * g.monitorRoom + (rest.map fun v => v.category).sum ≤ W9) (hdg : decode c.code g.pc = .ok (.invokespecial index, 3))
    (hpre : ∀ vm₁, s.WarmedH vm₁ → Pre ⟨T.setVm vm₁, locs, cells, slots⟩ (Value.ref a :: argsL).toArray) :
    (∃ (v : Option Value) (vm₁ : Vm) (B : Pt), s.WarmedH vm₁ ∧ Stand p l e R s m args below meth c B.U B.locs B.cells B.slots ∧ Post ⟨T.setVm vm₁, locs, cells, slots⟩ (Value.ref a :: argsL).toArray v B ∧
      ∀ target, Steps p.tables e below (B.U.setTop { g with pc := g.pc + 3, stack := v.toList ++ rest }) target → Steps p.tables e below (T.setTop g) target) ∨
    (∃ (q : Addr) (vm₁ : Vm) (B : Pt), s.WarmedH vm₁ ∧ Stand p l e R s m args below meth c B.U B.locs B.cells B.slots ∧ PostX ⟨T.setVm vm₁, locs, cells, slots⟩ (Value.ref a :: argsL).toArray q B ∧
      Steps p.tables e below (T.setTop g) ((B.U.setTop { g with stack := rest }).pushFrame (.throwing q))) := by
  subst hg
  have hpl : e.platform.magicAccessors = ({} : Platform).magicAccessors := by rw [X.admits.platform]
  obtain ⟨mk, methM, cM, kP, vm₁, hnamed, hmethM, hcodeM, -, hlocalsM, -, hkP, -, hW₁, hstep₁⟩ := Steps.initColdArgs (e := e) X.here hexec X.warmed hpl hown hy1 hy hlink hinst hcode (f := g) rfl hlen hstack hdg
  have X₁ := X.noted hW₁
  rcases hK g.method meth c ⟨T.setVm vm₁, locs, cells, slots⟩ { g with stack := rest } (.invokespecial index) mk (Value.ref a :: argsL).toArray X₁ rfl hsize hdg hW (X₁.named hnamed) (hpre vm₁ X₁.warmed) with ⟨v, B, X', hpost, hsteps⟩ | ⟨q, B, X', hpost, hsteps⟩
  · exact Or.inl ⟨v, vm₁, B, X₁.warmed, X', hpost, fun target h => hstep₁ _ fun acts => by rw [doInvoke_state]; exact hsteps.trans h⟩
  · exact Or.inr ⟨q, vm₁, B, X₁.warmed, X', hpost, hstep₁ _ fun acts => by rw [doInvoke_state]; exact hsteps⟩
end VXIA
section VXIB
variable {p : Program} {l : Launch} {e : Env} {R : Room} {s : State} {m : MethodId} {args : Array Value} {below : List Frame} {meth : Method} {c : Code} {H : Heap} {locs : List Loc} {cells slots : Nat}
variable {y : MethodName} {bytes cc : ByteArray} {maxL nL mc ms n index : Nat} {ret : Option FieldType} {ws : List Cond} {rm : Room} {Pc : Array Value → State → Prop} {Qc : Array Value → State → Outcome → State → Prop} {XC : String → State → State → Prop} {free : Addr → Prop} {Ts : List Cond} {own C : String} {b : Addr} {As rest : List Value} {g : JFrame}
theorem vx_runI (S : CallFix p m c cc nL s args Ts own) (hM : vx_Met l y ws rm Pc Qc XC mc ms free) (cw : CallB R s args own index y bytes maxL none ws rm mc ms n ∧ y.name = "<init>" ∧ (Cond.instanceMethod y).before args s = true) (hp : PreS s H Pc (.ref b :: As))
    (hg : g.method = m) (hn : As.length = n) (hsize : g.locals.size = nL) (hstack : g.stack = As.reverse ++ .ref b :: rest) (hW : 2 * g.monitorRoom + (rest.map fun v => v.category).sum ≤ 8) (hdg : decode cc g.pc = .ok (.invokespecial index, 3)) (hf : cells + mc ≤ R.cells ∧ slots + ms ≤ R.slots) :
    vx_Run p l e R s m args below meth c H locs cells slots mc ms g rest (Qc (Value.ref b :: As).toArray) XC free := by
  have hK : vx_Back l R p e below s args y 3 8 (PreOf R mc ms Pc) (PostOf Qc mc ms free) (vx_Post XC mc ms free) := vx_callBack cw.1 hM hp.1
  obtain ⟨⟨-, -, -, -, -, -, hcode, -, hy, hlen, hl⟩, hy1, hin⟩ := cw
  obtain ⟨hx, hb, hml, ho, -⟩ := S
  have hPc := hp.2
  intro T hT X
  rcases vx_callI X hx (bytes := bytes) (maxL := maxL) ho hy1 hl hin hcode hy hK hg (hsize.trans hml.symm) (a := b) (argsL := As) (rest := rest) (fun sig h => hn.trans (hlen sig h)) hstack hW (by rw [hb]; exact hdg)
    (fun vm₁ hW₁ => ⟨hf.1, hf.2, hPc (T.setVm vm₁) hT hW₁⟩) with ⟨v, vm₁, ⟨U', l2, c2, s2⟩, hW₁, X', ⟨g', mk, t, L, e1, e2, hq, h1, hL, h2, h3⟩, st⟩ | ⟨q, vm₁, ⟨U', l2, c2, s2⟩, hW₁, X', ⟨g', mk, t, L, E, ce, e1, e2, hq, hce, hcv, hcl, h1, hL, h2, h3⟩, st⟩
  · dsimp only [Pt.U, Pt.locs, Pt.cells, Pt.slots] at X' e1 e2 h1 h2 h3 st
    subst h1; subst h2; subst h3
    exact Or.inl ⟨v, (T.setVm vm₁).calling g' mk (Value.ref b :: As).toArray, t, U', L, hT, X', hL, e1, e2, hq, st⟩
  · dsimp only [Pt.U, Pt.locs, Pt.cells, Pt.slots] at X' e1 e2 h1 h2 h3 st hcl
    subst h1; subst h2; subst h3
    exact Or.inr ⟨q, (T.setVm vm₁).calling g' mk (Value.ref b :: As).toArray, t, U', L, E, ce, hT, X', hL, e1, e2, hq, hce, hcv, vx_cls hW₁ hcl, st⟩
end VXIB
/-! ===== END ===== -/
def hpT : List (Nat × Nat) := [(149, 1155)]
def chkH (m : Nat) : Bool := (zM_hh m).all (fun q => (match zop m q.2.2.1 with
  | some (.astore j, _) => decide (j < zM_L m) && decide (zop m (q.2.2.1 + 2) = some (.bipush q.2.2.2.2.2, 2)) && decide (zop m (q.2.2.1 + 2 + 2) = some (.ireturn, 1)) && decide (-128 ≤ q.2.2.2.2.2 ∧ q.2.2.2.2.2 ≤ 127)
  | some (.astore_n j, _) => decide (j.val < zM_L m) && decide (zop m (q.2.2.1 + 1) = some (.bipush q.2.2.2.2.2, 2)) && decide (zop m (q.2.2.1 + 1 + 2) = some (.ireturn, 1)) && decide (-128 ≤ q.2.2.2.2.2 ∧ q.2.2.2.2.2 ≤ 127)
  | _ => false) && decide (¬ q.2.2.2.1 = 0) && decide (q.2.2.2.2.1 = 2) && decide (zM_ret m = some .int) && (match hpT.lookup q.2.2.2.1 with
  | some p => chkW p (.classLink (zownS (zM_o m)) q.2.2.2.1 (exS q.2.2.2.2.1))
  | none => false))
set_option maxRecDepth 100000 in
theorem okH_0 : ((mIdx.drop 0).take 60).all chkH = true := by decide +kernel
set_option maxRecDepth 100000 in
theorem okH_1 : ((mIdx.drop 60).take 60).all chkH = true := by decide +kernel
set_option maxRecDepth 100000 in
theorem okH_2 : ((mIdx.drop 120).take 60).all chkH = true := by decide +kernel
set_option maxRecDepth 100000 in
theorem okH_3 : ((mIdx.drop 180).take 60).all chkH = true := by decide +kernel
set_option maxRecDepth 100000 in
theorem okH_4 : ((mIdx.drop 240).take 60).all chkH = true := by decide +kernel
set_option maxRecDepth 100000 in
theorem okH_all : mIdx.all chkH = true := all_cut _ 0 60 okH_0 (all_cut _ 60 60 okH_1 (all_cut _ 120 60 okH_2 (all_cut _ 180 60 okH_3 (all_cut _ 240 60 okH_4 (all_end _ 300 (by decide +kernel))))))
theorem hh_ok {m lo hi at9 ct E : Nat} {cc : Int} (h : (lo, hi, at9, ct, E, cc) ∈ zM_hh m) : (∃ ja jd : Nat, ja < zM_L m ∧ ((zop m at9 = some (.astore ja, 2) ∧ jd = 2) ∨ ∃ jf : Fin 4, ja = jf.val ∧ zop m at9 = some (.astore_n jf, 1) ∧ jd = 1) ∧ (-128 ≤ cc ∧ cc ≤ 127) ∧ zop m (at9 + jd) = some (.bipush cc, 2) ∧ zop m (at9 + jd + 2) = some (.ireturn, 1)) ∧ ct ≠ 0 ∧ E = 2 ∧ zM_ret m = some .int ∧ Cond.classLink (zownS (zM_o m)) ct (exS E) ∈ lwG := by
  have hm : m < nMeth := by
    rcases Nat.lt_or_ge m nMeth with q | q
    · exact q
    · have e : zM_r m = mrNo := by unfold zM_r; rw [List.getD_eq_getElem?_getD, List.getElem?_eq_none (by rw [mtab_len]; exact q)]; rfl
      unfold zM_hh at h
      rw [e] at h
      cases h
  have h1 := List.all_eq_true.mp okH_all m (List.mem_range.mpr hm)
  have h2 := List.all_eq_true.mp h1 _ h
  dsimp only at h2
  simp only [Bool.and_eq_true] at h2
  obtain ⟨⟨⟨⟨a1, a2⟩, a3⟩, a4⟩, a5⟩ := h2
  refine ⟨?_, of_decide_eq_true a2, of_decide_eq_true a3, of_decide_eq_true a4, ?_⟩
  · split at a1
    · rename_i j len ho
      simp only [Bool.and_eq_true, decide_eq_true_eq] at a1
      have e : len = 2 := by
        rcases op_len ho with q | q
        · exact q
        · exact absurd q (by simp [ilen])
      subst e
      exact ⟨j, 2, a1.1.1.1, Or.inl ⟨ho, rfl⟩, a1.2, a1.1.1.2, a1.1.2⟩
    · rename_i j len ho
      simp only [Bool.and_eq_true, decide_eq_true_eq] at a1
      have e : len = 1 := by
        rcases op_len ho with q | q
        · exact q
        · exact absurd q (by simp [ilen])
      subst e
      exact ⟨j.val, 1, a1.1.1.1, Or.inr ⟨j, rfl, ho, rfl⟩, a1.2, a1.1.1.2, a1.1.2⟩
    · cases a1
  · split at a5
    · exact lwG_in (chkW_in a5)
    · cases a5
section SND7
variable {p : Program} {l : Launch} {e : Env} {R : Room} {s : State} {mid : MethodId} {args : Array Value} {below : List Frame} {meth : Method} {c : Code} {Q : State → Prop} {D : va_G} {cA : Nat → ClassId} {sz0 b Ls : Nat} {xs : Nat → Int32} {ad0 : Nat → Nat} {n0 m : Nat}
variable {pc k n : Nat} {L : List (Option AV)} {st : List AV} {h : HP} {F' : Fr}
theorem RS_next {ad ad' : Nat → Nat} {H H1 : Heap} {locs locs1 : List Loc} {ls : Array Slot} {h' : HP} {t : List AV} {v : Option AV} (hr : RS s D cA sz0 b Ls xs ad0 n0 m ad L st h H locs ls) (ht : ∀ w ∈ t, w ∈ st) (hv : ∀ w, v = some w → okV h'.1.length w) (hw : WD D cA sz0 b Ls xs ad h.1.length ad' h' H1) (hS : va_S (aS sz0) s.heap H1 locs1) :
    RS s D cA sz0 b Ls xs ad0 n0 m ad' L (v.toList ++ t) h' H1 locs1 ls ∧ t.map (cv ad') = t.map (cv ad) := by
  obtain ⟨rl, rL, rv, rs, rh, rx, rP, rD, rS, rb⟩ := hr
  obtain ⟨w1, w2, w3, w4, w5, w6, w7⟩ := hw
  have hSC : ad' SCR = ad SCR := w5.trans rb.1.symm
  refine ⟨⟨⟨rl.1, rl.2.1, fun q hq => ?_⟩, rL, fun w hw => ⟨okV_mono (rv w hw).1 w6, (rv w hw).2⟩, fun w hw => ?_, w1, w2, w3, w4, hS, w5, Nat.le_trans rb.2.1 w6, fun a ha => (w7 a (Nat.lt_of_lt_of_le ha rb.2.1)).trans (rb.2.2 a ha)⟩, cvs_ext w7 hSC (fun w hw => rs w (ht w hw))⟩
  · obtain ⟨i, w, h1, rfl⟩ := knL_of _ _ _ hq
    rw [cv_ext w7 hSC (rv w (List.mem_of_getElem? h1)).1]
    exact rl.2.2 _ (knL_in L 0 i w h1)
  · rcases List.mem_append.mp hw with hw | hw
    · cases v with
      | none => exact absurd hw List.not_mem_nil
      | some z =>
        simp only [Option.toList_some, List.mem_singleton] at hw
        subst hw
        exact hv _ rfl
    · exact okV_mono (rs w (ht w hw)) w6
theorem WD_next {ad ad' : Nat → Nat} {H H1 : Heap} {locs : List Loc} {ls : Array Slot} {h' : HP} (hr : RS s D cA sz0 b Ls xs ad0 n0 m ad L st h H locs ls) (hw : WD D cA sz0 b Ls xs ad h.1.length ad' h' H1) : WD D cA sz0 b Ls xs ad0 n0 ad' h' H1 := by
  obtain ⟨rl, rL, rv, rs, rh, rx, rP, rD, rS, rb⟩ := hr
  obtain ⟨w1, w2, w3, w4, w5, w6, w7⟩ := hw
  exact ⟨w1, w2, w3, w4, w5, Nat.le_trans rb.2.1 w6, fun a ha => (w7 a (Nat.lt_of_lt_of_le ha rb.2.1)).trans (rb.2.2 a ha)⟩
/-- behind a call: it returned, or it threw -/
theorem behind {x : Nat} {j : Nat} {as : List AV} {o : Out} {ad : Nat → Nat} {H : Heap} {locs : List Loc} {ls : Array Slot} {t : List AV} {a9 : Array Value} (hD : DecOK) (C : CX p l R s mid args meth c D cA sz0 b Ls xs m) (hr : RS s D cA sz0 b Ls xs ad0 n0 m ad L st h H locs ls) (ht : ∀ w ∈ t, w ∈ st)
    (hk : k + zM_mc j ≤ zM_mc m) (hn : n + zM_ms j ≤ zM_ms m)
    (hrun : vx_Run p l e R s mid args below meth c H locs k n (zM_mc j) (zM_ms j) (F0 mid pc ls (st.map (cv ad))) (t.map (cv ad)) (QcO D cA sz0 b Ls xs ad h.1.length o a9) (XCO D cA sz0 b Ls xs ad h.1.length o) (aS sz0))
    (kr : ∀ v h', o = (.inl v, h') → GW p l e R s mid args below meth c Q D cA sz0 b Ls xs ad0 n0 m (pc + 3, L, v.toList ++ t, h', k + zM_mc j, n + zM_ms j))
    (kx : ∀ E h', o = (.inr E, h') → ∃ o', zthrOf m pc E h' = some o' ∧ FIN p l e R s mid args below meth c Q D cA sz0 b Ls xs ad0 n0 m o') :
    W p l e R s mid args below meth c H locs k n Q (F0 mid pc ls (st.map (cv ad))) := by
  have C0 := C
  obtain ⟨hx, hb, hml, hown, hts, ⟨hlocks, htab, hret⟩, hin, hfl, hR, hK, hX⟩ := C
  have rS := hr.2.2.2.2.2.2.2.2.1
  have id1 : ∀ q : Nat, q < H.size → aS sz0 q → aS sz0 q := fun _ _ z => z
  have id2 : ∀ q : Nat, aS sz0 q → aS sz0 q := fun _ z => z
  intro T hT X
  rcases hrun T hT X with ⟨v, st₀, t9, T', Lo, h0, X', hL, e1, e2, ⟨v9, h', ad', ho, hoc, hov, hw, hF⟩, st9⟩ | ⟨q9, st₀, t9, T', Lo, E, ce, h0, X', hL, e1, e2, ⟨Ei, h', ad', ho, hE, hw, hF⟩, hce, hcv, hcl, st9⟩
  · obtain ⟨k1, k2, k3⟩ := vx_keep h0 e1 rS id1 id2 hL hF
    cases hoc
    rw [← e1] at hw
    obtain ⟨r1, r2⟩ := RS_next hr ht hov hw k3
    have kk := kr v9 h' ho ad' T'.heap (locs ++ Lo) ls r1 hk hn
    dsimp only at kk
    rw [List.map_append, r2] at kk
    have e3 : (v9.toList.map (cv ad')) = (v9.map (cv ad')).toList := by cases v9 <;> rfl
    rw [e3] at kk
    obtain ⟨t2, a1, b1⟩ := kk T' rfl X'
    exact ⟨t2, st9 t2 a1, b1⟩
  · obtain ⟨k1, k2, k3⟩ := vx_keep h0 e1 rS id1 id2 hL hF
    subst hE
    rw [← e1] at hw
    have hwn := WD_next hr hw
    obtain ⟨o', ho', hfin⟩ := kx Ei h' ho
    have hce' : T'.heap[q9]? = some ce := by rw [e1]; exact hce
    have main : vx_W p l e R s mid args below meth c T'.heap (locs ++ Lo) (k + zM_mc j) (n + zM_ms j) Q (F0 mid pc ls (t.map (cv ad))) q9 := by
      unfold zthrOf at ho'
      cases hh : zhnd m pc Ei with
      | none =>
        rw [hh] at ho'
        dsimp only at ho'
        split at ho'
        · rename_i hnil
          cases ho'
          exact hfin.1 pc ad' T'.heap (locs ++ Lo) ls _ _ _ ce q9 hnil hwn k3 hk hn hce' hcv hcl
        · cases ho'
      | some cc =>
        rw [hh] at ho'
        dsimp only at ho'
        split at ho'
        · rename_i hcR
          cases ho'
          unfold zhnd at hh
          cases hq : (zM_hh m).find? (fun h => decide (h.1 ≤ pc) && decide (pc < h.2.1) && h.2.2.2.2.1 == Ei) with
          | none => rw [hq] at hh; cases hh
          | some en =>
            rw [hq] at hh
            obtain ⟨hp1, pre, suf, hsp, hpre⟩ := List.find?_eq_some_iff_append.mp hq
            obtain ⟨lo, hi, at9, ct, E9, c9⟩ := en
            have hcc : c9 = cc := Option.some.inj hh
            subst hcc
            simp only [Bool.and_eq_true, decide_eq_true_eq, beq_iff_eq] at hp1
            obtain ⟨⟨g1, g2⟩, rfl⟩ := hp1
            have hmem : (lo, hi, at9, ct, E9, c9) ∈ zM_hh m := by rw [hsp]; exact List.mem_append_right _ List.mem_cons_self
            obtain ⟨⟨ja, jd, hja, dA, hja2, dB, dC⟩, hct, hE3, hri, hlk⟩ := hh_ok hmem
            have htab := htab.resolve_left (fun z => by rw [z] at hmem; exact absurd hmem List.not_mem_nil)
            have wd : ∀ {w : Jvm.Cond}, w ∈ lwG → w.before args s = true := fun hw => hts _ (lwG_of hw).1 (lwG_of hw).2
            refine vx_catch (own := zownS (zM_o m)) (name := exS E9) hown (tableOf (pre.map fun h => (h.1, h.2.1, h.2.2.1, h.2.2.2.1))) ⟨lo, hi, at9, ct⟩ (tableOf (suf.map fun h => (h.1, h.2.1, h.2.2.1, h.2.2.2.1))) ?_ (fun z hz => ?_) ?_ hct (wd hlk) (va_Nw.use rfl (hK.2.2.2.1 E9 (by omega))) hce' hcv hcl ?_
            · rw [htab]
              unfold M_h4
              rw [hsp]
              unfold tableOf
              simp
            · unfold tableOf at hz
              rw [List.map_map] at hz
              obtain ⟨h9, hh9, rfl⟩ := List.mem_map.mp hz
              have hmem9 : h9 ∈ zM_hh m := by rw [hsp]; exact List.mem_append_left _ hh9
              obtain ⟨-, hct9, hE9, -, hlk9⟩ := hh_ok (lo := h9.1) (hi := h9.2.1) (at9 := h9.2.2.1) (ct := h9.2.2.2.1) (E := h9.2.2.2.2.1) (cc := h9.2.2.2.2.2) hmem9
              have hnp := hpre h9 hh9
              by_cases hEE : h9.2.2.2.2.1 = E9
              · left
                show covers _ pc = false
                unfold covers
                simp only [Bool.not_eq_true', Bool.and_eq_false_iff, decide_eq_false_iff_not, beq_eq_false_iff_ne] at hnp
                rcases hnp with (z | z) | z
                · simp only [Function.comp]
                  simp
                  omega
                · simp only [Function.comp]
                  simp
                  omega
                · exact absurd hEE z
              · right
                exact ⟨hct9, exS h9.2.2.2.2.1, wd hlk9, hK.2.2.2.2.2.1 E9 _ (by omega) hE9 (fun z => hEE z.symm)⟩
            · unfold covers
              simp
              omega
            · have rl1 : lv_has ls (zM_L m) [] := ⟨hr.1.1, hr.1.2.1, fun q hq => absurd hq List.not_mem_nil⟩
              have fin : ∀ ls' : Array Slot, lv_has ls' (zM_L m) [(ja, .ref q9)] → W p l e R s mid args below meth c T'.heap (locs ++ Lo) (k + zM_mc j) (n + zM_ms j) Q (F0 mid (at9 + jd) ls' []) := by
                intro ls' hl'
                refine lv_bipush (v := Int32.ofInt c9) hx hb (dec_of hD dB (by simp [ilen])) (by rw [← Int32.ofInt_int8ToInt, Int8.toInt_ofInt_of_le (by omega) (by omega)]) ?_
                exact hfin (at9 + jd + 2) .ireturn ad' T'.heap (locs ++ Lo) ls' _ _ (dec_of hD dC (by simp [ilen])) (Or.inl ⟨rfl, c9, rfl, Or.inl hri⟩) hwn (fun w hw => by cases hw; exact hcR) k3 hk hn hl'.1
              rcases dA with ⟨dA, rfl⟩ | ⟨jf, rfl, dA, rfl⟩
              · exact lv_astore hx hb (dec_of hD dA (by simp [ilen])) rl1 hja rfl fin
              · exact lv_astore_n hx hb (dec_of hD dA (by simp [ilen])) rfl rl1 hja rfl fin
        · cases ho'
    obtain ⟨t2, a1, b1⟩ := main T' rfl X'
    exact ⟨t2, st9.trans a1, b1⟩
theorem sCall_inv {kd x j : Nat} {as : List AV} {F1 : Fr} (hs : zsCall m kd (zml (zM_o m) x) (pc + 3) L st h k n = some (.inr (.inl (j, as, F1)))) :
    Cond.methodLink (zownS (zM_o m)) x (zM_y j) ∈ lwG ∧ as = (st.take (zM_n j)).reverse ∧ F1 = (pc + 3, L, st.drop (zM_n j), h, k + zM_mc j, n + zM_ms j) ∧ (kd = zM_k j ∧ zM_n j ≤ st.length ∧ ((st.drop (zM_n j)).map avc).sum ≤ 8 ∧ zM_f j + 1 ≤ zM_f m ∧ 8 + (zM_L j + 11) + zM_lo j ≤ zM_lo m ∧ k + zM_mc j ≤ zM_mc m ∧ n + zM_ms j ≤ zM_ms m ∧ (∀ v ∈ (st.take (zM_n j)).reverse, avc v = 1) ∧ zM_n j ≤ zM_L j) ∧
    ((kd = 0) ∨ (kd = 1 ∧ ∃ a t' ln rf, as = .inr (.inr (some a)) :: t' ∧ h.1[a]? = some (zownCi (zM_o j) + 10, ln, rf)) ∨ (kd = 2 ∧ ∃ a t', as = .inr (.inr (some a)) :: t')) := by
  generalize hq : zml (zM_o m) x = q0 at hs
  unfold zsCall at hs
  split at hs
  · cases hs
  · rename_i j9
    have hj := ml_ok hq
    split at hs
    · split at hs
      · split at hs <;> cases hs
      · cases hs
    · rename_i z1
      split at hs
      · split at hs
        · split at hs <;> cases hs
        · cases hs
      · rename_i z2
        split at hs
        · split at hs
          · split at hs <;> cases hs
          · cases hs
        · rename_i z3
          have hlk : Cond.methodLink (zownS (zM_o m)) x (zM_y j9) ∈ lwG := by
            rcases hj with ⟨z, -⟩ | ⟨z, -⟩ | ⟨z, -⟩ | ⟨-, -, -, z⟩
            · exact absurd z z1
            · exact absurd z z2
            · exact absurd z z3
            · exact z
          dsimp only at hs
          split at hs
          · rename_i hg
            split at hs
            · rename_i a t' has
              split at hs
              · rename_i kr ln rf ha
                split at hs
                · rename_i hkr
                  cases hs
                  refine ⟨hlk, rfl, rfl, hg, Or.inr (Or.inl ⟨rfl, a, t', ln, rf, has, ?_⟩)⟩
                  rw [ha, hkr]
                · cases hs
              · cases hs
            · cases hs
              exact ⟨hlk, rfl, rfl, hg, Or.inl rfl⟩
            · rename_i a t' has
              cases hs
              exact ⟨hlk, rfl, rfl, hg, Or.inr (Or.inr ⟨rfl, a, t', has⟩)⟩
            · cases hs
          · cases hs
theorem mf_le : zmtab.all (fun r => decide (r.2.1.2.2.2.1 ≤ zM_f 0)) = true := by decide +kernel
theorem mf_le' (m : Nat) : zM_f m ≤ zM_f 0 := by
  unfold zM_f zM_r
  rw [List.getD_eq_getElem?_getD]
  cases hz : zmtab[m]? with
  | none => exact Nat.zero_le _
  | some r => exact of_decide_eq_true (List.all_eq_true.mp mf_le r (List.mem_of_getElem? hz))
theorem call_ok {kd x j : Nat} {as : List AV} {F1 : Fr} {o : Out} (hD : DecOK) (C : CX p l R s mid args meth c D cA sz0 b Ls xs m) (hd : (kd = 0 ∧ decode (zM_b m) pc = .ok (.invokestatic x, 3)) ∨ (kd = 1 ∧ decode (zM_b m) pc = .ok (.invokevirtual x, 3)) ∨ (kd = 2 ∧ decode (zM_b m) pc = .ok (.invokespecial x, 3)))
    (hs : zsCall m kd (zml (zM_o m) x) (pc + 3) L st h k n = some (.inr (.inl (j, as, F1)))) (hjn : j < nMeth)
    (hM : ∀ ad, (∀ v ∈ as, okV h.1.length v ∧ avc v = 1) → as.length ≤ zM_L j → okH h → okX Ls xs h.2 → ad SCR = b → ¬ j = 0 → vx_Met l (zM_y j) (wsM j) (rmOf j) (PcO D cA sz0 b Ls xs ad as h) (QcO D cA sz0 b Ls xs ad h.1.length o) (XCO D cA sz0 b Ls xs ad h.1.length o) (zM_mc j) (zM_ms j) (aS sz0))
    (kr : ∀ v h', o = (.inl v, h') → GW p l e R s mid args below meth c Q D cA sz0 b Ls xs ad0 n0 m (pushO v F1 h'))
    (kx : ∀ E h', o = (.inr E, h') → ∃ o', zthrOf m pc E h' = some o' ∧ FIN p l e R s mid args below meth c Q D cA sz0 b Ls xs ad0 n0 m o') : GW p l e R s mid args below meth c Q D cA sz0 b Ls xs ad0 n0 m (pc, L, st, h, k, n) := by
  obtain ⟨hlk, hsas, hF1, ⟨hkd, g1, g2, g3, g4, g5, g6, g7, g8⟩, hkind⟩ := sCall_inv hs
  subst hF1
  have hj0 : ¬ j = 0 := fun z => by
    have q1 := mf_le' m
    rw [z] at g3
    omega
  obtain ⟨k1, k2, k3, k4, k5, k6, k7, k8, k9, k10, k11, k12⟩ := M_ok hj0 hjn
  intro ad H locs ls hr hk hn
  dsimp only at hr hk hn ⊢
  have hr0 := hr
  obtain ⟨rl, rL, rv, rs, rh, rx, rP, rD, rS, rb⟩ := hr
  have C0 := C
  obtain ⟨hx, hb, hml, hown, hts, hlocks, hin, hfl, hR, hK, hX⟩ := C
  have wd : ∀ {w : Jvm.Cond}, w ∈ lwG → w.before args s = true := fun hw => hts _ (lwG_of hw).1 (lwG_of hw).2
  have hst : st = as.reverse ++ st.drop (zM_n j) := by rw [hsas, List.reverse_reverse, List.take_append_drop]
  have hasm : ∀ v ∈ as, v ∈ st := fun v hv => by rw [hst]; exact List.mem_append_left _ (List.mem_reverse.mpr hv)
  have htm : ∀ v ∈ st.drop (zM_n j), v ∈ st := fun v hv => List.mem_of_mem_drop hv
  have hasl : as.length = zM_n j := by rw [hsas, List.length_reverse, List.length_take]; omega
  have hMet := hM ad (fun v hv => ⟨rs v (hasm v hv), by rw [hsas] at hv; exact g7 v hv⟩) (by omega) rh rx rb.1 hj0
  have S : CallFix p mid c (zM_b m) (zM_L m) s args lwG (zownS (zM_o m)) := ⟨hx, hb, hml, hown, fun w hw => wd hw⟩
  have hws : ∀ w ∈ wsM j, ∀ (a' : Array Value) (U : State), s.WarmedH U.vm → w.before a' U = true := by
    intro w hw a' U hW
    have hg : w ∈ lwG := by
      rcases List.mem_cons.mp hw with rfl | hw
      · exact k1
      · exact hw
    exact word_at hW (good_of_word (lwG_of hg).2) (wd hg)
  have hroom : (rmOf j).frames + 1 ≤ R.frames ∧ 8 + (zM_L j + 11) + (rmOf j).locals ≤ R.locals := by rw [hR]; exact ⟨g3, g4⟩
  have hf : k + zM_mc j ≤ R.cells ∧ n + zM_ms j ≤ R.slots := by rw [hR]; exact ⟨g5, g6⟩
  have hlen : ∀ N, (if zM_k j = 0 then zM_n j else zM_n j - 1) = N → ∀ sig, parseMethodDescriptor (zM_y j).desc = some sig → N = sig.parameters.length := by
    intro N hN sig hsig
    rw [hsig] at k10
    rw [← hN]
    exact (Option.some.inj k10).symm
  have hPc : ∀ U : State, U.heap = H → s.WarmedH U.vm → PcO D cA sz0 b Ls xs ad as h (as.map (cv ad)).toArray U := by
    intro U hU hW
    exact ⟨rfl, KX.warm hW hK, by rw [hU]; exact HX.at hW rS hX, by rw [hU]; exact rP, rD⟩
  have hmap : st.map (cv ad) = (as.map (cv ad)).reverse ++ (st.drop (zM_n j)).map (cv ad) := by
    conv => lhs; rw [hst]
    rw [List.map_append, List.map_reverse]
  have hsum : 2 * (F0 mid pc ls (st.map (cv ad))).monitorRoom + (((st.drop (zM_n j)).map (cv ad)).map fun v => v.category).sum ≤ 8 := lv_room (by rw [cats]; exact g2)
  rcases hkind with hk0 | ⟨hk1, a, t', ln, rf, has, ha⟩ | ⟨hk2, a, t', has⟩
  · subst hk0
    have hdd : decode (zM_b m) pc = .ok (.invokestatic x, 3) := by
      rcases hd with ⟨-, q⟩ | ⟨q, -⟩ | ⟨q, -⟩
      · exact q
      · cases q
      · cases q
    have hPS : PreS s H (PcO D cA sz0 b Ls xs ad as h) (as.map (cv ad)) := ⟨PcO.blind, hPc⟩
    have hls : (as.map (cv ad)).length = zM_n j := by rw [List.length_map]; exact hasl
    refine behind (a9 := (as.map (cv ad)).toArray) (x := x) (t := st.drop (zM_n j)) (as := as) hD C0 hr0 htm g5 g6 ?_ kr kx
    by_cases hh : zM_hh j = []
    · have eM : M_code j = .code (zM_y j) (zM_b j) (zM_L j) (zM_ret j) := by unfold M_code; rw [if_pos hh]
      exact vx_runS S hMet ⟨⟨rfl, rfl, hroom.1, hroom.2, hws, by unfold wsM; rw [eM]; exact List.mem_cons_self, by rw [← eM]; exact wd k1, wd k2, ⟨k8, k9⟩, hlen (zM_n j) (by rw [if_pos hkd.symm]), wd hlk⟩, wd (k3 hkd.symm)⟩ hPS rfl hls rl.1 hmap hsum hdd hf
    · have eM : M_code j = .codeWith (zM_y j) (zM_b j) (zM_L j) (zM_ret j) (M_h4 j) := by unfold M_code; rw [if_neg hh]
      exact vx_runSX (hh := M_h4 j) S hMet ⟨⟨rfl, rfl, hroom.1, hroom.2, hws, by unfold wsM; rw [eM]; exact List.mem_cons_self⟩, by rw [← eM]; exact wd k1, wd k2, ⟨k8, k9⟩, hlen (zM_n j) (by rw [if_pos hkd.symm]), wd hlk, wd (k3 hkd.symm)⟩ hPS rfl hls rl.1 hmap hsum hdd hf
  · subst hk1
    have hdd : decode (zM_b m) pc = .ok (.invokevirtual x, 3) := by
      rcases hd with ⟨q, -⟩ | ⟨-, q⟩ | ⟨q, -⟩
      · cases q
      · exact q
      · cases q
    obtain ⟨i1, i2, i3⟩ := k4 (by rw [← hkd]; decide)
    obtain ⟨i4, T, N, hc⟩ := k5 hkd.symm
    have eM : M_code j = .code (zM_y j) (zM_b j) (zM_L j) (zM_ret j) := by unfold M_code; rw [if_pos i3]
    have he := wsO_get (cA := cA) (ad := ad) (σ := h.2) ha
    rw [entO_o] at he
    have hav : as.map (cv ad) = Value.ref (ad a) :: t'.map (cv ad) := by rw [has]; rfl
    have hPV : PreV s H (zM_y j).cls (ad a) (PcO D cA sz0 b Ls xs ad as h) (t'.map (cv ad)) := ⟨PcO.blind, va_recv hK.1 rP hc he, fun U hU hW => by rw [← hav]; exact hPc U hU hW⟩
    refine behind (a9 := (Value.ref (ad a) :: t'.map (cv ad)).toArray) (x := x) (t := st.drop (zM_n j)) (as := as) hD C0 hr0 htm g5 g6 ?_ kr kx
    exact vx_runV S hMet ⟨⟨rfl, rfl, hroom.1, hroom.2, hws, by unfold wsM; rw [eM]; exact List.mem_cons_self, by rw [← eM]; exact wd k1, wd k2, ⟨k8, k9⟩, hlen (zM_n j - 1) (by rw [if_neg (by rw [← hkd]; decide)]), wd hlk⟩, wd i1, wd i4⟩ hPV rfl (by rw [List.length_map]; rw [has] at hasl; simp at hasl; omega) rl.1 (by rw [hmap, hav]; simp) hsum hdd hf
  · subst hk2
    have hdd : decode (zM_b m) pc = .ok (.invokespecial x, 3) := by
      rcases hd with ⟨q, -⟩ | ⟨q, -⟩ | ⟨-, q⟩
      · cases q
      · cases q
      · exact q
    obtain ⟨i1, i2, i3⟩ := k4 (by rw [← hkd]; decide)
    obtain ⟨j1, j2, -⟩ := k12 hkd.symm
    have eM : M_code j = .code (zM_y j) (zM_b j) (zM_L j) none := by unfold M_code; rw [if_pos i3, j2]
    have hav : as.map (cv ad) = Value.ref (ad a) :: t'.map (cv ad) := by rw [has]; rfl
    have hPS : PreS s H (PcO D cA sz0 b Ls xs ad as h) (Value.ref (ad a) :: t'.map (cv ad)) := ⟨PcO.blind, fun U hU hW => by rw [← hav]; exact hPc U hU hW⟩
    refine behind (a9 := (Value.ref (ad a) :: t'.map (cv ad)).toArray) (x := x) (t := st.drop (zM_n j)) (as := as) hD C0 hr0 htm g5 g6 ?_ kr kx
    exact vx_runI S hMet ⟨⟨rfl, rfl, hroom.1, hroom.2, hws, by unfold wsM; rw [eM]; exact List.mem_cons_self, by rw [← eM]; exact wd k1, wd k2, ⟨k8, k9⟩, hlen (zM_n j - 1) (by rw [if_neg (by rw [← hkd]; decide)]), wd hlk⟩, j1, wd i1⟩ hPS rfl (by rw [List.length_map]; rw [has] at hasl; simp at hasl; omega) rl.1 (by rw [hmap, hav]; simp) hsum hdd hf
theorem ret_inv {i : Instr} {len : Nat} {o : Out} (hD : DecOK) (ho : zop m pc = some (i, len)) (hs : zstepOp m i pc L st h k n = some (.inr (.inr o))) :
    (∃ v, o = (.inl v, h) ∧ decode (zM_b m) pc = .ok (i, 1) ∧ retI i (zM_ret m) v ∧ st = v.toList) ∨ (∃ E, o = (.inr E, h) ∧ zxt m pc = some E ∧ 6 ≤ zM_f m ∧ (st.map avc).sum + 82 ≤ zM_lo m ∧ k + 1 ≤ zM_mc m ∧ n + 6 ≤ zM_ms m ∧ zM_hh m = []) := by
  cases i
  case ireturn =>
    left
    unfold zstepOp zsIret at hs
    dsimp only at hs
    split at hs
    · rename_i x hret
      cases hs
      exact ⟨_, rfl, dec_of hD ho (by simp [ilen]), Or.inl ⟨rfl, x, rfl, Or.inl hret⟩, rfl⟩
    · rename_i x hret
      split at hs
      · rename_i hx
        cases hs
        exact ⟨_, rfl, dec_of hD ho (by simp [ilen]), Or.inl ⟨rfl, x, rfl, Or.inr ⟨hret, hx⟩⟩, rfl⟩
      · cases hs
    · cases hs
  case areturn =>
    left
    unfold zstepOp zsAret at hs
    dsimp only at hs
    split at hs
    · rename_i r
      split at hs
      · rename_i hret
        cases hs
        exact ⟨_, rfl, dec_of hD ho (by simp [ilen]), Or.inr (Or.inl ⟨rfl, hret, r, rfl⟩), rfl⟩
      · cases hs
    · cases hs
  case return_ =>
    left
    unfold zstepOp zsVret at hs
    dsimp only at hs
    split at hs
    · rename_i hret
      cases hs
      exact ⟨_, rfl, dec_of hD ho (by simp [ilen]), Or.inr (Or.inr ⟨rfl, hret, rfl⟩), rfl⟩
    · cases hs
  case new x =>
    right
    unfold zstepOp at hs
    dsimp only at hs
    split at hs
    · rename_i E hE
      unfold zsThrow at hs
      split at hs
      · rename_i hg
        cases hs
        exact ⟨E, rfl, hE, hg⟩
      · cases hs
    · unfold zsNew at hs
      split at hs
      · split at hs
        · split at hs <;> cases hs
        · cases hs
      · cases hs
  case newarray a9 =>
    cases a9 <;> (unfold zstepOp at hs; dsimp only at hs) <;> (try unfold zsNewA at hs) <;> (repeat' split at hs) <;> cases hs
  all_goals (unfold zstepOp at hs; dsimp only at hs)
  all_goals (first | (cases hs; done) | skip)
  all_goals (first | unfold sLdI at hs | unfold sLdA at hs | unfold sStI at hs | unfold sStA at hs | unfold sK at hs | unfold sBin at hs | unfold sDiv at hs | unfold sBit at hs | unfold sIf at hs | unfold sCmp at hs | unfold sNul jmp at hs | unfold sSw jmp at hs | unfold sGetF at hs | unfold zsPutF at hs | unfold sIald at hs | unfold sIast at hs | unfold sLald at hs | unfold sLast at hs | unfold sZald at hs | unfold sZast at hs | unfold sAald at hs | unfold zsAast at hs | unfold sAlen at hs | unfold zsNewA at hs | unfold zsCall at hs | unfold jmp at hs | skip)
  all_goals (try unfold sK at hs)
  all_goals (try dsimp only at hs)
  all_goals (repeat' split at hs)
  all_goals (first | (cases hs; done) | skip)
theorem call_inv {i : Instr} {len j : Nat} {as : List AV} {F1 : Fr} (hD : DecOK) (ho : zop m pc = some (i, len)) (hs : zstepOp m i pc L st h k n = some (.inr (.inl (j, as, F1)))) :
    ∃ kd x, ((kd = 0 ∧ decode (zM_b m) pc = .ok (.invokestatic x, 3)) ∨ (kd = 1 ∧ decode (zM_b m) pc = .ok (.invokevirtual x, 3)) ∨ (kd = 2 ∧ decode (zM_b m) pc = .ok (.invokespecial x, 3))) ∧ zsCall m kd (zml (zM_o m) x) (pc + 3) L st h k n = some (.inr (.inl (j, as, F1))) := by
  cases i
  case invokestatic x => exact ⟨0, x, Or.inl ⟨rfl, dec_of hD ho (by simp [ilen])⟩, hs⟩
  case invokevirtual x => exact ⟨1, x, Or.inr (Or.inl ⟨rfl, dec_of hD ho (by simp [ilen])⟩), hs⟩
  case invokespecial x => exact ⟨2, x, Or.inr (Or.inr ⟨rfl, dec_of hD ho (by simp [ilen])⟩), hs⟩
  case new x =>
    unfold zstepOp at hs
    dsimp only at hs
    split at hs
    · unfold zsThrow at hs
      split at hs <;> cases hs
    · unfold zsNew at hs
      split at hs
      · split at hs
        · split at hs <;> cases hs
        · cases hs
      · cases hs
  case ireturn =>
    unfold zstepOp zsIret at hs
    dsimp only at hs
    split at hs
    · cases hs
    · split at hs <;> cases hs
    · cases hs
  case areturn =>
    unfold zstepOp zsAret at hs
    dsimp only at hs
    split at hs
    · split at hs <;> cases hs
    · cases hs
  case return_ =>
    unfold zstepOp zsVret at hs
    dsimp only at hs
    split at hs <;> cases hs
  case newarray a9 =>
    cases a9 <;> (unfold zstepOp at hs; dsimp only at hs) <;> (try unfold zsNewA at hs) <;> (repeat' split at hs) <;> cases hs
  all_goals (unfold zstepOp at hs; dsimp only at hs)
  all_goals (first | (cases hs; done) | skip)
  all_goals (first | unfold sLdI at hs | unfold sLdA at hs | unfold sStI at hs | unfold sStA at hs | unfold sK at hs | unfold sBin at hs | unfold sDiv at hs | unfold sBit at hs | unfold sIf at hs | unfold sCmp at hs | unfold sNul jmp at hs | unfold sSw jmp at hs | unfold sGetF at hs | unfold zsPutF at hs | unfold sIald at hs | unfold sIast at hs | unfold sLald at hs | unfold sLast at hs | unfold sZald at hs | unfold sZast at hs | unfold sAald at hs | unfold zsAast at hs | unfold sAlen at hs | unfold zsNewA at hs | unfold jmp at hs | skip)
  all_goals (try unfold sK at hs)
  all_goals (try dsimp only at hs)
  all_goals (repeat' split at hs)
  all_goals (first | (cases hs; done) | skip)
end SND7
/-- THE INTERPRETER TELLS OF THE MACHINE: what a zrun says, the machine does -/
theorem run_sound (l : Launch) (hl : l.stackTraces = false) (hD : DecOK) (D : va_G) (cA : Nat → ClassId) (sz0 b Ls : Nat) (xs : Nat → Int32) : ∀ (nf m : Nat) (F : Fr) (o : Out), zrun nf m F = some o →
    ∀ (p : Program) (e : Env) (R : Room) (s : State) (mid : MethodId) (args : Array Value) (below : List Frame) (meth : Method) (c : Code) (Q : State → Prop) (ad0 : Nat → Nat) (n0 : Nat), CX p l R s mid args meth c D cA sz0 b Ls xs m → FIN p l e R s mid args below meth c Q D cA sz0 b Ls xs ad0 n0 m o → GW p l e R s mid args below meth c Q D cA sz0 b Ls xs ad0 n0 m F := by
  intro nf
  induction nf with
  | zero => intro m F o h; cases h
  | succ nf ih =>
    intro m F o hrun p e R s mid args below meth c Q ad0 n0 C hfin
    unfold zrun at hrun
    obtain ⟨pc, L, st, h, k, n⟩ := F
    cases hs : zstep m (pc, L, st, h, k, n) with
    | none => rw [hs] at hrun; cases hrun
    | some r =>
      rw [hs] at hrun
      have hs2 := hs
      unfold zstep at hs2
      cases ho : zop m pc with
      | none => dsimp only at hs2; rw [ho] at hs2; cases hs2
      | some il =>
        obtain ⟨i, len⟩ := il
        dsimp only at hs2
        rw [ho] at hs2
        dsimp only at hs2
        rcases r with F' | ⟨j, as, F1⟩ | o1
        · exact step_ok hD C ho hs2 (ih m F' o hrun p e R s mid args below meth c Q ad0 n0 C hfin)
        · dsimp only at hrun
          obtain ⟨kd, x, hd, hsc⟩ := call_inv hD ho hs2
          have hF1 := (sCall_inv hsc).2.2.1
          have hh1 : F1.2.2.2.1 = h := by rw [hF1]
          rw [hh1] at hrun
          cases hcal : zrun nf j (zentryF j as h) with
          | none => rw [hcal] at hrun; cases hrun
          | some oj =>
            rw [hcal] at hrun
            refine call_ok (o := oj) hD C hd hsc (run_lt hcal) (fun ad hv hlen rh rx rb hj0 => met_of hj0 (run_lt hcal) hD hl hv hlen rh rx rb (fun p e R s mid args below meth c Q C1 f1 => ih j _ oj hcal p e R s mid args below meth c Q ad h.1.length C1 f1)) (fun v h' hoj => ?_) (fun E h' hoj => ?_)
            · subst hoj
              exact ih m _ o hrun p e R s mid args below meth c Q ad0 n0 C hfin
            · subst hoj
              exact ⟨o, hrun, hfin⟩
        · dsimp only at hrun
          cases hrun
          intro ad H locs ls hr hk hn
          dsimp only at hr hk hn ⊢
          obtain ⟨rl, rL, rv, rs, rh, rx, rP, rD, rS, rb⟩ := hr
          rcases ret_inv hD ho hs2 with ⟨v, rfl, hd, hri, rfl⟩ | ⟨E, rfl, hxt, g1, g2, g3, g4, g5⟩
          · exact hfin pc i ad H locs ls k n hd hri ⟨rh, rx, rP, rD, rb⟩ (fun w hw => rs w (by rw [hw]; exact List.mem_singleton.mpr rfl)) rS hk hn rl.1
          · exact hfin.2 pc ad H locs ls st k n hxt g1 g2 g3 g4 g5 ⟨rh, rx, rP, rD, rb⟩ rS rl.1


