def hpT : List (Nat × Nat) := [(13, 518), (15, 519), (17, 520)]
def chkH (m : Nat) : Bool := (M_hh m).all (fun q => (match op m q.2.2.1 with
  | some (.astore j, _) => decide (j < M_L m) && decide (op m (q.2.2.1 + 2) = some (.iconst q.2.2.2.2.2, 1)) && decide (op m (q.2.2.1 + 2 + 1) = some (.ireturn, 1))
  | some (.astore_n j, _) => decide (j.val < M_L m) && decide (op m (q.2.2.1 + 1) = some (.iconst q.2.2.2.2.2, 1)) && decide (op m (q.2.2.1 + 1 + 1) = some (.ireturn, 1))
  | _ => false) && decide (¬ q.2.2.2.1 = 0) && decide (q.2.2.2.2.1 < 3) && decide (M_ret m = some .int) && (match hpT.lookup q.2.2.2.1 with
  | some p => chkW p (.classLink (ownS (M_o m)) q.2.2.2.1 (exS q.2.2.2.2.1))
  | none => false))
set_option maxRecDepth 100000 in
theorem okH_0 : ((mIdx.drop 0).take 60).all chkH = true := by decide +kernel
set_option maxRecDepth 100000 in
theorem okH_1 : ((mIdx.drop 60).take 60).all chkH = true := by decide +kernel
set_option maxRecDepth 100000 in
theorem okH_2 : ((mIdx.drop 120).take 60).all chkH = true := by decide +kernel
set_option maxRecDepth 100000 in
theorem okH_3 : ((mIdx.drop 180).take 60).all chkH = true := by decide +kernel
set_option maxRecDepth 100000 in
theorem okH_4 : ((mIdx.drop 240).take 60).all chkH = true := by decide +kernel
set_option maxRecDepth 100000 in
theorem okH_5 : ((mIdx.drop 300).take 60).all chkH = true := by decide +kernel
set_option maxRecDepth 100000 in
theorem okH_6 : ((mIdx.drop 360).take 60).all chkH = true := by decide +kernel
set_option maxRecDepth 100000 in
theorem okH_7 : ((mIdx.drop 420).take 60).all chkH = true := by decide +kernel
set_option maxRecDepth 100000 in
theorem okH_all : mIdx.all chkH = true := all_cut _ 0 60 okH_0 (all_cut _ 60 60 okH_1 (all_cut _ 120 60 okH_2 (all_cut _ 180 60 okH_3 (all_cut _ 240 60 okH_4 (all_cut _ 300 60 okH_5 (all_cut _ 360 60 okH_6 (all_cut _ 420 60 okH_7 (all_end _ 480 (by decide +kernel)))))))))
theorem hh_ok {m lo hi at9 ct E : Nat} {cc : Int} (h : (lo, hi, at9, ct, E, cc) ∈ M_hh m) : (∃ ja jd : Nat, ja < M_L m ∧ ((op m at9 = some (.astore ja, 2) ∧ jd = 2) ∨ ∃ jf : Fin 4, ja = jf.val ∧ op m at9 = some (.astore_n jf, 1) ∧ jd = 1) ∧ True ∧ op m (at9 + jd) = some (.iconst cc, 1) ∧ op m (at9 + jd + 1) = some (.ireturn, 1)) ∧ ct ≠ 0 ∧ E < 3 ∧ M_ret m = some .int ∧ Cond.classLink (ownS (M_o m)) ct (exS E) ∈ lwG := by
  have hm : m < nMeth := by
    rcases Nat.lt_or_ge m nMeth with q | q
    · exact q
    · have e : M_r m = mrNo := by unfold M_r; rw [List.getD_eq_getElem?_getD, List.getElem?_eq_none (by rw [mtab_len]; exact q)]; rfl
      unfold M_hh at h
      rw [e] at h
      cases h
  have h1 := List.all_eq_true.mp okH_all m (List.mem_range.mpr hm)
  have h2 := List.all_eq_true.mp h1 _ h
  dsimp only at h2
  simp only [Bool.and_eq_true] at h2
  obtain ⟨⟨⟨⟨a1, a2⟩, a3⟩, a4⟩, a5⟩ := h2
  refine ⟨?_, of_decide_eq_true a2, of_decide_eq_true a3, of_decide_eq_true a4, ?_⟩
  · split at a1
    · rename_i j len ho
      simp only [Bool.and_eq_true, decide_eq_true_eq] at a1
      have e : len = 2 := by
        rcases op_len ho with q | q
        · exact q
        · exact absurd q (by simp [ilen])
      subst e
      exact ⟨j, 2, a1.1.1, Or.inl ⟨ho, rfl⟩, trivial, a1.1.2, a1.2⟩
    · rename_i j len ho
      simp only [Bool.and_eq_true, decide_eq_true_eq] at a1
      have e : len = 1 := by
        rcases op_len ho with q | q
        · exact q
        · exact absurd q (by simp [ilen])
      subst e
      exact ⟨j.val, 1, a1.1.1, Or.inr ⟨j, rfl, ho, rfl⟩, trivial, a1.1.2, a1.2⟩
    · cases a1
  · split at a5
    · exact lwG_in (chkW_in a5)
    · cases a5
section SND7
variable {p : Program} {l : Launch} {e : Env} {R : Room} {s : State} {mid : MethodId} {args : Array Value} {below : List Frame} {meth : Method} {c : Code} {Q : State → Prop} {D : va_G} {cA : Nat → ClassId} {sz0 b Ls : Nat} {xs : Nat → Int32} {ad0 : Nat → Nat} {n0 m : Nat}
variable {pc k n : Nat} {L : List (Option AV)} {st : List AV} {h : HP} {F' : Fr}
theorem RS_next {ad ad' : Nat → Nat} {H H1 : Heap} {locs locs1 : List Loc} {ls : Array Slot} {h' : HP} {t : List AV} {v : Option AV} (hr : RS s D cA sz0 b Ls xs ad0 n0 m ad L st h H locs ls) (ht : ∀ w ∈ t, w ∈ st) (hv : ∀ w, v = some w → okV h'.1.length w) (hw : WD D cA sz0 b Ls xs ad h.1.length ad' h' H1) (hS : va_S (aS sz0) s.heap H1 locs1) :
    RS s D cA sz0 b Ls xs ad0 n0 m ad' L (v.toList ++ t) h' H1 locs1 ls ∧ t.map (cv ad') = t.map (cv ad) := by
  obtain ⟨rl, rL, rv, rs, rh, rx, rP, rD, rS, rb⟩ := hr
  obtain ⟨w1, w2, w3, w4, w5, w6, w7⟩ := hw
  have hSC : ad' SCR = ad SCR := w5.trans rb.1.symm
  refine ⟨⟨⟨rl.1, rl.2.1, fun q hq => ?_⟩, rL, fun w hw => ⟨okV_mono (rv w hw).1 w6, (rv w hw).2⟩, fun w hw => ?_, w1, w2, w3, w4, hS, w5, Nat.le_trans rb.2.1 w6, fun a ha => (w7 a (Nat.lt_of_lt_of_le ha rb.2.1)).trans (rb.2.2 a ha)⟩, cvs_ext w7 hSC (fun w hw => rs w (ht w hw))⟩
  · obtain ⟨i, w, h1, rfl⟩ := knL_of _ _ _ hq
    rw [cv_ext w7 hSC (rv w (List.mem_of_getElem? h1)).1]
    exact rl.2.2 _ (knL_in L 0 i w h1)
  · rcases List.mem_append.mp hw with hw | hw
    · cases v with
      | none => exact absurd hw List.not_mem_nil
      | some z =>
        simp only [Option.toList_some, List.mem_singleton] at hw
        subst hw
        exact hv _ rfl
    · exact okV_mono (rs w (ht w hw)) w6
theorem WD_next {ad ad' : Nat → Nat} {H H1 : Heap} {locs : List Loc} {ls : Array Slot} {h' : HP} (hr : RS s D cA sz0 b Ls xs ad0 n0 m ad L st h H locs ls) (hw : WD D cA sz0 b Ls xs ad h.1.length ad' h' H1) : WD D cA sz0 b Ls xs ad0 n0 ad' h' H1 := by
  obtain ⟨rl, rL, rv, rs, rh, rx, rP, rD, rS, rb⟩ := hr
  obtain ⟨w1, w2, w3, w4, w5, w6, w7⟩ := hw
  exact ⟨w1, w2, w3, w4, w5, Nat.le_trans rb.2.1 w6, fun a ha => (w7 a (Nat.lt_of_lt_of_le ha rb.2.1)).trans (rb.2.2 a ha)⟩
/-- behind a call: it returned, or it threw -/
theorem behind {x : Nat} {j : Nat} {as : List AV} {o : Out} {ad : Nat → Nat} {H : Heap} {locs : List Loc} {ls : Array Slot} {t : List AV} {a9 : Array Value} (hD : DecOK) (C : CX p l R s mid args meth c D cA sz0 b Ls xs m) (hr : RS s D cA sz0 b Ls xs ad0 n0 m ad L st h H locs ls) (ht : ∀ w ∈ t, w ∈ st)
    (hk : k + M_mc j ≤ M_mc m) (hn : n + M_ms j ≤ M_ms m)
    (hrun : vx_Run p l e R s mid args below meth c H locs k n (M_mc j) (M_ms j) (F0 mid pc ls (st.map (cv ad))) (t.map (cv ad)) (QcO D cA sz0 b Ls xs ad h.1.length o a9) (XCO D cA sz0 b Ls xs ad h.1.length o) (aS sz0))
    (kr : ∀ v h', o = (.inl v, h') → GW p l e R s mid args below meth c Q D cA sz0 b Ls xs ad0 n0 m (pc + 3, L, v.toList ++ t, h', k + M_mc j, n + M_ms j))
    (kx : ∀ E h', o = (.inr E, h') → ∃ o', thrOf m pc E h' = some o' ∧ FIN p l e R s mid args below meth c Q D cA sz0 b Ls xs ad0 n0 m o') :
    W p l e R s mid args below meth c H locs k n Q (F0 mid pc ls (st.map (cv ad))) := by
  have C0 := C
  obtain ⟨hx, hb, hml, hown, hts, ⟨hlocks, htab, hret⟩, hin, hfl, hR, hK, hX⟩ := C
  have rS := hr.2.2.2.2.2.2.2.2.1
  have id1 : ∀ q : Nat, q < H.size → aS sz0 q → aS sz0 q := fun _ _ z => z
  have id2 : ∀ q : Nat, aS sz0 q → aS sz0 q := fun _ z => z
  intro T hT X
  rcases hrun T hT X with ⟨v, st₀, t9, T', Lo, h0, X', hL, e1, e2, ⟨v9, h', ad', ho, hoc, hov, hw, hF⟩, st9⟩ | ⟨q9, st₀, t9, T', Lo, E, ce, h0, X', hL, e1, e2, ⟨Ei, h', ad', ho, hE, hw, hF⟩, hce, hcv, hcl, st9⟩
  · obtain ⟨k1, k2, k3⟩ := vx_keep h0 e1 rS id1 id2 hL hF
    cases hoc
    rw [← e1] at hw
    obtain ⟨r1, r2⟩ := RS_next hr ht hov hw k3
    have kk := kr v9 h' ho ad' T'.heap (locs ++ Lo) ls r1 hk hn
    dsimp only at kk
    rw [List.map_append, r2] at kk
    have e3 : (v9.toList.map (cv ad')) = (v9.map (cv ad')).toList := by cases v9 <;> rfl
    rw [e3] at kk
    obtain ⟨t2, a1, b1⟩ := kk T' rfl X'
    exact ⟨t2, st9 t2 a1, b1⟩
  · obtain ⟨k1, k2, k3⟩ := vx_keep h0 e1 rS id1 id2 hL hF
    subst hE
    rw [← e1] at hw
    have hwn := WD_next hr hw
    obtain ⟨o', ho', hfin⟩ := kx Ei h' ho
    have hce' : T'.heap[q9]? = some ce := by rw [e1]; exact hce
    have main : vx_W p l e R s mid args below meth c T'.heap (locs ++ Lo) (k + M_mc j) (n + M_ms j) Q (F0 mid pc ls (t.map (cv ad))) q9 := by
      unfold thrOf at ho'
      cases hh : hnd m pc Ei with
      | none =>
        rw [hh] at ho'
        dsimp only at ho'
        split at ho'
        · rename_i hnil
          cases ho'
          exact hfin.1 pc ad' T'.heap (locs ++ Lo) ls _ _ _ ce q9 hnil hwn k3 hk hn hce' hcv hcl
        · cases ho'
      | some cc =>
        rw [hh] at ho'
        dsimp only at ho'
        split at ho'
        · rename_i hcR
          cases ho'
          unfold hnd at hh
          cases hq : (M_hh m).find? (fun h => decide (h.1 ≤ pc) && decide (pc < h.2.1) && h.2.2.2.2.1 == Ei) with
          | none => rw [hq] at hh; cases hh
          | some en =>
            rw [hq] at hh
            obtain ⟨hp1, pre, suf, hsp, hpre⟩ := List.find?_eq_some_iff_append.mp hq
            obtain ⟨lo, hi, at9, ct, E9, c9⟩ := en
            have hcc : c9 = cc := Option.some.inj hh
            subst hcc
            simp only [Bool.and_eq_true, decide_eq_true_eq, beq_iff_eq] at hp1
            obtain ⟨⟨g1, g2⟩, rfl⟩ := hp1
            have hmem : (lo, hi, at9, ct, E9, c9) ∈ M_hh m := by rw [hsp]; exact List.mem_append_right _ List.mem_cons_self
            obtain ⟨⟨ja, jd, hja, dA, hja2, dB, dC⟩, hct, hE3, hri, hlk⟩ := hh_ok hmem
            have wd : ∀ {w : Jvm.Cond}, w ∈ lwG → w.before args s = true := fun hw => hts _ (lwG_of hw).1 (lwG_of hw).2
            refine vx_catch (own := ownS (M_o m)) (name := exS E9) hown (tableOf (pre.map fun h => (h.1, h.2.1, h.2.2.1, h.2.2.2.1))) ⟨lo, hi, at9, ct⟩ (tableOf (suf.map fun h => (h.1, h.2.1, h.2.2.1, h.2.2.2.1))) ?_ (fun z hz => ?_) ?_ hct (wd hlk) (va_Nw.use rfl (hK.2.2.2.1 E9 hE3)) hce' hcv hcl ?_
            · rw [htab]
              unfold M_h4
              rw [hsp]
              unfold tableOf
              simp
            · unfold tableOf at hz
              rw [List.map_map] at hz
              obtain ⟨h9, hh9, rfl⟩ := List.mem_map.mp hz
              have hmem9 : h9 ∈ M_hh m := by rw [hsp]; exact List.mem_append_left _ hh9
              obtain ⟨-, hct9, hE9, -, hlk9⟩ := hh_ok (lo := h9.1) (hi := h9.2.1) (at9 := h9.2.2.1) (ct := h9.2.2.2.1) (E := h9.2.2.2.2.1) (cc := h9.2.2.2.2.2) hmem9
              have hnp := hpre h9 hh9
              by_cases hEE : h9.2.2.2.2.1 = E9
              · left
                show covers _ pc = false
                unfold covers
                simp only [Bool.not_eq_true', Bool.and_eq_false_iff, decide_eq_false_iff_not, beq_eq_false_iff_ne] at hnp
                rcases hnp with (z | z) | z
                · simp only [Function.comp]
                  simp
                  omega
                · simp only [Function.comp]
                  simp
                  omega
                · exact absurd hEE z
              · right
                exact ⟨hct9, exS h9.2.2.2.2.1, wd hlk9, hK.2.2.2.2.2.1 E9 _ hE3 hE9 (fun z => hEE z.symm)⟩
            · unfold covers
              simp
              omega
            · have rl1 : lv_has ls (M_L m) [] := ⟨hr.1.1, hr.1.2.1, fun q hq => absurd hq List.not_mem_nil⟩
              have fin : ∀ ls' : Array Slot, lv_has ls' (M_L m) [(ja, .ref q9)] → W p l e R s mid args below meth c T'.heap (locs ++ Lo) (k + M_mc j) (n + M_ms j) Q (F0 mid (at9 + jd) ls' []) := by
                intro ls' hl'
                refine lv_iconst (v := Int32.ofInt c9) hx hb (dec_of hD dB (by simp [ilen])) rfl ?_
                exact hfin (at9 + jd + 1) .ireturn ad' T'.heap (locs ++ Lo) ls' _ _ (dec_of hD dC (by simp [ilen])) (Or.inl ⟨rfl, c9, rfl, Or.inl hri⟩) hwn (fun w hw => by cases hw; exact hcR) k3 hk hn hl'.1
              rcases dA with ⟨dA, rfl⟩ | ⟨jf, rfl, dA, rfl⟩
              · exact lv_astore hx hb (dec_of hD dA (by simp [ilen])) rl1 hja rfl fin
              · exact lv_astore_n hx hb (dec_of hD dA (by simp [ilen])) rfl rl1 hja rfl fin
        · cases ho'
    obtain ⟨t2, a1, b1⟩ := main T' rfl X'
    exact ⟨t2, st9.trans a1, b1⟩
end SND7

