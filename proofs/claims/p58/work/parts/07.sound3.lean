section SND2
variable {p : Program} {l : Launch} {e : Env} {R : Room} {s : State} {mid : MethodId} {args : Array Value} {below : List Frame} {meth : Method} {c : Code} {Q : State → Prop} {D : va_G} {cA : Nat → ClassId} {sz0 b Ls : Nat} {xs : Nat → Int32} {ad0 : Nat → Nat} {n0 m : Nat}
variable {pc k n : Nat} {L : List (Option AV)} {st : List AV} {h : HP} {F' : Fr}
theorem shift_ok {v : AV} {t : List AV} {N : Nat} (h : okV N v) (ht : ∀ w ∈ t, okV N w) : ∀ w ∈ v :: t, okV N w := fun w hw => by
  rcases List.mem_cons.mp hw with rfl | hw
  · exact h
  · exact ht w hw
theorem s_Iald (C : CX p l R s mid args meth c D cA sz0 b Ls xs m) (hd : decode (zM_b m) pc = .ok (.iaload, 1)) (hs : sIald (pc + 1) L st h k n = some (.inl F')) (kk : GW p l e R s mid args below meth c Q D cA sz0 b Ls xs ad0 n0 m F') : GW p l e R s mid args below meth c Q D cA sz0 b Ls xs ad0 n0 m (pc, L, st, h, k, n) := by
  obtain ⟨hx, hb, hml, hown, hts, hlocks, hin, hfl, hR, hK, hX⟩ := C
  obtain ⟨sh, σ⟩ := h
  unfold sIald at hs
  split at hs
  · rename_i i a t
    split at hs
    · rename_i haS
      subst haS
      split at hs
      · rename_i hg
        cases hs
        intro ad H locs ls hr hk hn
        dsimp only at hr hk hn ⊢
        obtain ⟨rl, rL, rv, rs, rh, rx, rP, rD, rS, rb⟩ := hr
        have hi : inR i = true := rs _ List.mem_cons_self
        have hiL : i < (Ls : Int) := by have q := rx.2; dsimp only at q; rw [← q]; exact hg.2
        have e9 : xs (Int32.ofInt i).toNatClampNeg = Int32.ofInt (σ SCR i.toNat) := by rw [jI_clamp hi]; exact rx.1 _ (by omega)
        obtain ⟨z1, z2, z3, z4, z5⟩ := hX
        have e2 : (cv ad (.inr (.inr (some SCR)))) = Value.ref b := by show Value.ref (ad SCR) = _; rw [rb.1]
        show W p l e R s mid args below meth c H locs k n Q (F0 mid pc ls (.int (Int32.ofInt i) :: cv ad (.inr (.inr (some SCR))) :: t.map (cv ad)))
        rw [e2]
        refine va_sld hx hb z3 (Nat.lt_of_lt_of_le z4 z5) (Nat.not_le.mpr z4) rS (jI_in hi hg.1 hiL) hd ?_
        rw [e9]
        exact kk ad H locs ls ⟨rl, rL, rv, shift_ok (v := .inl (σ SCR i.toNat)) (rh.1 _ _) (fun w hw => rs w (List.mem_cons_of_mem _ (List.mem_cons_of_mem _ hw))), rh, rx, rP, rD, rS, rb⟩ hk hn
      · cases hs
    · split at hs
      · rename_i kd ln rf ha
        split at hs
        · rename_i hg
          obtain ⟨rfl, hi0, hiL⟩ := hg
          cases hs
          intro ad H locs ls hr hk hn
          dsimp only at hr hk hn ⊢
          obtain ⟨rl, rL, rv, rs, rh, rx, rP, rD, rS, rb⟩ := hr
          have hi : inR i = true := rs _ List.mem_cons_self
          have he := wsO_get (cA := cA) (ad := ad) (σ := σ) ha
          rw [entO_i] at he
          refine va_iald (D := D) (tys := tyL cA) hx hb hK.1 rP a 0 he rfl (jI_in hi hi0 hiL) hd ?_
          rw [jI_clamp hi]
          exact kk ad H locs ls ⟨rl, rL, rv, shift_ok (v := .inl (σ a i.toNat)) (rh.1 _ _) (fun w hw => rs w (List.mem_cons_of_mem _ (List.mem_cons_of_mem _ hw))), rh, rx, rP, rD, rS, rb⟩ hk hn
        · cases hs
      · cases hs
  · cases hs
theorem s_Iast (C : CX p l R s mid args meth c D cA sz0 b Ls xs m) (hd : decode (zM_b m) pc = .ok (.iastore, 1)) (hs : sIast (pc + 1) L st h k n = some (.inl F')) (kk : GW p l e R s mid args below meth c Q D cA sz0 b Ls xs ad0 n0 m F') : GW p l e R s mid args below meth c Q D cA sz0 b Ls xs ad0 n0 m (pc, L, st, h, k, n) := by
  obtain ⟨hx, hb, hml, hown, hts, hlocks, hin, hfl, hR, hK, hX⟩ := C
  obtain ⟨sh, σ⟩ := h
  unfold sIast at hs
  split at hs
  · rename_i v i a t
    split at hs
    · rename_i kd ln rf ha
      split at hs
      · rename_i hg
        obtain ⟨rfl, hi0, hiL⟩ := hg
        cases hs
        intro ad H locs ls hr hk hn
        dsimp only at hr hk hn ⊢
        obtain ⟨rl, rL, rv, rs, rh, rx, rP, rD, rS, rb⟩ := hr
        have hv : inR v = true := rs _ List.mem_cons_self
        have hi : inR i = true := rs _ (List.mem_cons_of_mem _ List.mem_cons_self)
        have he := wsO_get (cA := cA) (ad := ad) (σ := σ) ha
        rw [entO_i] at he
        have e : wsO cA ad sh (upS σ a i.toNat v) = (wsO cA ad sh σ).set a (ad a, .inl (cA 0, ln, .inl (upd (fun j => Int32.ofInt (σ a j)) (Int32.ofInt i).toNatClampNeg (Int32.ofInt v)))) := by
          rw [wsO_put ha, entO_i, jI_clamp hi]
          congr 6
          funext j
          unfold upS upd
          by_cases q : j = i.toNat
          · rw [if_pos ⟨rfl, q⟩, if_pos q]
          · rw [if_neg (fun z => q z.2), if_neg q]
        refine va_iast (D := D) (tys := tyL cA) hx hb hK.1 rP rD rS a 0 he rfl (jI_in hi hi0 hiL) hd (fun H1 locs1 w1 w2 w3 => ?_)
        rw [← e] at w1 w2
        exact kk ad H1 locs1 ls ⟨rl, rL, rv, fun w hw => rs w (List.mem_cons_of_mem _ (List.mem_cons_of_mem _ (List.mem_cons_of_mem _ hw))), upS_okH rh (lt_of_at ha) hv, upS_okX rh (lt_of_at ha) rx, w1, w2, w3, rb⟩ hk hn
      · cases hs
    · cases hs
  · cases hs
theorem s_Zald (C : CX p l R s mid args meth c D cA sz0 b Ls xs m) (hd : decode (zM_b m) pc = .ok (.baload, 1)) (hs : sZald (pc + 1) L st h k n = some (.inl F')) (kk : GW p l e R s mid args below meth c Q D cA sz0 b Ls xs ad0 n0 m F') : GW p l e R s mid args below meth c Q D cA sz0 b Ls xs ad0 n0 m (pc, L, st, h, k, n) := by
  obtain ⟨hx, hb, hml, hown, hts, hlocks, hin, hfl, hR, hK, hX⟩ := C
  obtain ⟨sh, σ⟩ := h
  unfold sZald at hs
  split at hs
  · rename_i i a t
    split at hs
    · rename_i kd ln rf ha
      split at hs
      · rename_i hg
        obtain ⟨rfl, hi0, hiL⟩ := hg
        cases hs
        intro ad H locs ls hr hk hn
        dsimp only at hr hk hn ⊢
        obtain ⟨rl, rL, rv, rs, rh, rx, rP, rD, rS, rb⟩ := hr
        have hi : inR i = true := rs _ List.mem_cons_self
        have he := wsO_get (cA := cA) (ad := ad) (σ := σ) ha
        rw [entO_z] at he
        refine va_zald (D := D) (tys := tyL cA) hx hb hK.1 rP a 2 he rfl (jI_in hi hi0 hiL) hd ?_
        rw [jI_clamp hi]
        exact kk ad H locs ls ⟨rl, rL, rv, shift_ok (v := .inl (σ a i.toNat)) (rh.1 _ _) (fun w hw => rs w (List.mem_cons_of_mem _ (List.mem_cons_of_mem _ hw))), rh, rx, rP, rD, rS, rb⟩ hk hn
      · cases hs
    · cases hs
  · cases hs
theorem s_Zast (C : CX p l R s mid args meth c D cA sz0 b Ls xs m) (hd : decode (zM_b m) pc = .ok (.bastore, 1)) (hs : sZast (pc + 1) L st h k n = some (.inl F')) (kk : GW p l e R s mid args below meth c Q D cA sz0 b Ls xs ad0 n0 m F') : GW p l e R s mid args below meth c Q D cA sz0 b Ls xs ad0 n0 m (pc, L, st, h, k, n) := by
  obtain ⟨hx, hb, hml, hown, hts, hlocks, hin, hfl, hR, hK, hX⟩ := C
  obtain ⟨sh, σ⟩ := h
  unfold sZast at hs
  split at hs
  · rename_i v i a t
    split at hs
    · rename_i kd ln rf ha
      split at hs
      · rename_i hg
        obtain ⟨rfl, hi0, hiL, hvb⟩ := hg
        cases hs
        intro ad H locs ls hr hk hn
        dsimp only at hr hk hn ⊢
        obtain ⟨rl, rL, rv, rs, rh, rx, rP, rD, rS, rb⟩ := hr
        have hv : inR v = true := rs _ List.mem_cons_self
        have hi : inR i = true := rs _ (List.mem_cons_of_mem _ List.mem_cons_self)
        have he := wsO_get (cA := cA) (ad := ad) (σ := σ) ha
        rw [entO_z] at he
        have hnv : vp_nar .boolean (Int32.ofInt v) = Int32.ofInt v := by rcases hvb with rfl | rfl <;> rfl
        have e : wsO cA ad sh (upS σ a i.toNat v) = (wsO cA ad sh σ).set a (ad a, .inl (cA 2, ln, .inl (upd (fun j => Int32.ofInt (σ a j)) (Int32.ofInt i).toNatClampNeg (vp_nar .boolean (Int32.ofInt v))))) := by
          rw [wsO_put ha, entO_z, jI_clamp hi, hnv]
          congr 6
          funext j
          unfold upS upd
          by_cases q : j = i.toNat
          · rw [if_pos ⟨rfl, q⟩, if_pos q]
          · rw [if_neg (fun z => q z.2), if_neg q]
        refine va_zast (D := D) (tys := tyL cA) hx hb hK.1 rP rD rS a 2 he rfl (jI_in hi hi0 hiL) hd (fun H1 locs1 w1 w2 w3 => ?_)
        rw [← e] at w1 w2
        exact kk ad H1 locs1 ls ⟨rl, rL, rv, fun w hw => rs w (List.mem_cons_of_mem _ (List.mem_cons_of_mem _ (List.mem_cons_of_mem _ hw))), upS_okH rh (lt_of_at ha) hv, upS_okX rh (lt_of_at ha) rx, w1, w2, w3, rb⟩ hk hn
      · cases hs
    · cases hs
  · cases hs
theorem rvO_rf {ad : Nat → Nat} {rf : List (Option (Option Nat))} {i : Nat} {r : Option Nat} (h : rf[i]? = some (some r)) : va_rf (refsO ad rf i) = rvO ad r := by
  unfold refsO
  rw [getD_of h]
  cases r <;> rfl
theorem s_Aald (C : CX p l R s mid args meth c D cA sz0 b Ls xs m) (hd : decode (zM_b m) pc = .ok (.aaload, 1)) (hs : sAald (pc + 1) L st h k n = some (.inl F')) (kk : GW p l e R s mid args below meth c Q D cA sz0 b Ls xs ad0 n0 m F') : GW p l e R s mid args below meth c Q D cA sz0 b Ls xs ad0 n0 m (pc, L, st, h, k, n) := by
  obtain ⟨hx, hb, hml, hown, hts, hlocks, hin, hfl, hR, hK, hX⟩ := C
  obtain ⟨sh, σ⟩ := h
  unfold sAald at hs
  split at hs
  · rename_i i a t
    split at hs
    · rename_i kd ln rf ha
      split at hs
      · rename_i hg
        obtain ⟨hkd, hi0, hiL⟩ := hg
        split at hs
        · rename_i r hr0
          cases hs
          intro ad H locs ls hr hk hn
          dsimp only at hr hk hn ⊢
          obtain ⟨rl, rL, rv, rs, rh, rx, rP, rD, rS, rb⟩ := hr
          have hi : inR i = true := rs _ List.mem_cons_self
          have hst : ∀ w ∈ (Sum.inr (Sum.inr r) : AV) :: t, okV sh.length w := shift_ok (v := .inr (.inr r)) (rh.2.2.2 _ (List.mem_of_getElem? ha) _ (List.mem_of_getElem? hr0) _ rfl) (fun w hw => rs w (List.mem_cons_of_mem _ (List.mem_cons_of_mem _ hw)))
          have he := wsO_get (cA := cA) (ad := ad) (σ := σ) ha
          rcases hkd with rfl | rfl
          · rw [entO_r] at he
            refine va_aldq (D := D) (tys := tyL cA) (C := "PatchBench$Row") hx hb hK.1 rP a 3 he rfl (jI_in hi hi0 hiL) hd ?_
            rw [jI_clamp hi, rvO_rf hr0]
            exact kk ad H locs ls ⟨rl, rL, rv, hst, rh, rx, rP, rD, rS, rb⟩ hk hn
          · rw [entO_p] at he
            refine va_aldq (D := D) (tys := tyL cA) (C := "PatchBench$Patch") hx hb hK.1 rP a 4 he rfl (jI_in hi hi0 hiL) hd ?_
            rw [jI_clamp hi, rvO_rf hr0]
            exact kk ad H locs ls ⟨rl, rL, rv, hst, rh, rx, rP, rD, rS, rb⟩ hk hn
        · cases hs
      · cases hs
    · cases hs
  · cases hs
theorem s_Aast (C : CX p l R s mid args meth c D cA sz0 b Ls xs m) (hd : decode (zM_b m) pc = .ok (.aastore, 1)) (hs : zsAast (pc + 1) L st h k n = some (.inl F')) (kk : GW p l e R s mid args below meth c Q D cA sz0 b Ls xs ad0 n0 m F') : GW p l e R s mid args below meth c Q D cA sz0 b Ls xs ad0 n0 m (pc, L, st, h, k, n) := by
  obtain ⟨hx, hb, hml, hown, hts, hlocks, hin, hfl, hR, hK, hX⟩ := C
  obtain ⟨sh, σ⟩ := h
  unfold zsAast at hs
  split at hs
  · rename_i r i a t
    split at hs
    · rename_i kd ln rf kr lr rr ha hr0
      split at hs
      · rename_i hg
        obtain ⟨hkd, hi0, hiL⟩ := hg
        cases hs
        intro ad H locs ls hr hk hn
        dsimp only at hr hk hn ⊢
        obtain ⟨rl, rL, rv, rs, rh, rx, rP, rD, rS, rb⟩ := hr
        have hi : inR i = true := rs _ (List.mem_cons_of_mem _ List.mem_cons_self)
        have hit : i.toNat < rf.length := by omega
        have hlen : ∀ z, (sh.set a z).length = sh.length := fun z => List.length_set
        have fin : ∀ kd', kd' = kd → ∀ (H1 : Heap) (locs1 : List Loc), va_P D vwCl (wsO cA ad (sh.set a (kd, ln, rf.set i.toNat (some (some r)))) σ) H1 → va_D (aS sz0) (wsO cA ad (sh.set a (kd, ln, rf.set i.toNat (some (some r)))) σ) → va_S (aS sz0) s.heap H1 locs1 → W p l e R s mid args below meth c H1 locs1 k n Q (F0 mid (pc + 1) ls (t.map (cv ad))) := by
          intro kd' _ H1 locs1 w1 w2 w3
          refine kk ad H1 locs1 ls ⟨rl, rL, ?_, ?_, ?_, rx, w1, w2, w3, ⟨rb.1, by show n0 ≤ List.length _; rw [hlen]; exact rb.2.1, rb.2.2⟩⟩ hk hn
          · intro w hw; show okV (List.length _) w ∧ _; rw [hlen]; exact rv w hw
          · intro w hw; show okV (List.length _) w; rw [hlen]; exact rs w (List.mem_cons_of_mem _ (List.mem_cons_of_mem _ (List.mem_cons_of_mem _ hw)))
          · obtain ⟨h1, h2, h3, h4⟩ := rh
            refine ⟨h1, fun a' g1 => h2 a' (by rw [← hlen]; exact g1), by show List.length _ ≤ _; rw [hlen]; exact h3, fun s' hs' r' hr' q' hq' => ?_⟩
            show okR (List.length _) q'
            rw [hlen]
            rcases List.mem_or_eq_of_mem_set hs' with hs' | rfl
            · exact h4 s' hs' r' hr' q' hq'
            · rcases List.mem_or_eq_of_mem_set hr' with hr' | rfl
              · exact h4 _ (List.mem_of_getElem? ha) r' hr' q' hq'
              · cases hq'
                intro z hz
                cases hz
                exact Or.inl (lt_of_at hr0)
        have he := wsO_get (cA := cA) (ad := ad) (σ := σ) ha
        have he2 := wsO_get (cA := cA) (ad := ad) (σ := σ) hr0
        rcases hkd with ⟨rfl, rfl⟩ | ⟨rfl, rfl⟩
        · rw [entO_r] at he
          rw [entO_o] at he2
          have e : wsO cA ad (sh.set a (3, ln, rf.set i.toNat (some (some r)))) σ = (wsO cA ad sh σ).set a (ad a, .inl (cA 3, rf.length, .inr (.inr (.inr (.inr (va_up (refsO ad rf) (Int32.ofInt i).toNatClampNeg (some (ad r)))))))) := by rw [wsO_setS (lt_of_at ha), entO_r, refsO_set hit, jI_clamp hi, List.length_set]
          refine va_astq (D := D) (tys := tyL cA) hx hb hK.1 rP rD rS a 3 r zciRow (r := (RX9, TX9, 2)) he rfl he2 rfl (jI_in hi hi0 hiL) hd (fun H1 locs1 w1 w2 w3 => ?_)
          rw [← e] at w1 w2
          exact fin 3 rfl H1 locs1 w1 w2 w3
        · rw [entO_p] at he
          rw [entO_o] at he2
          have e : wsO cA ad (sh.set a (4, ln, rf.set i.toNat (some (some r)))) σ = (wsO cA ad sh σ).set a (ad a, .inl (cA 4, rf.length, .inr (.inr (.inr (.inr (va_up (refsO ad rf) (Int32.ofInt i).toNatClampNeg (some (ad r)))))))) := by rw [wsO_setS (lt_of_at ha), entO_p, refsO_set hit, jI_clamp hi, List.length_set]
          refine va_astq (D := D) (tys := tyL cA) hx hb hK.1 rP rD rS a 4 r zciPatch (r := (RX6, TX6, 6)) he rfl he2 rfl (jI_in hi hi0 hiL) hd (fun H1 locs1 w1 w2 w3 => ?_)
          rw [← e] at w1 w2
          exact fin 4 rfl H1 locs1 w1 w2 w3
      · cases hs
    · cases hs
  · cases hs
theorem s_Alen (C : CX p l R s mid args meth c D cA sz0 b Ls xs m) (hd : decode (zM_b m) pc = .ok (.arraylength, 1)) (hs : sAlen (pc + 1) L st h k n = some (.inl F')) (kk : GW p l e R s mid args below meth c Q D cA sz0 b Ls xs ad0 n0 m F') : GW p l e R s mid args below meth c Q D cA sz0 b Ls xs ad0 n0 m (pc, L, st, h, k, n) := by
  obtain ⟨hx, hb, hml, hown, hts, hlocks, hin, hfl, hR, hK, hX⟩ := C
  obtain ⟨sh, σ⟩ := h
  unfold sAlen at hs
  split at hs
  · rename_i a t
    split at hs
    · rename_i haS
      subst haS
      cases hs
      intro ad H locs ls hr hk hn
      dsimp only at hr hk hn ⊢
      obtain ⟨rl, rL, rv, rs, rh, rx, rP, rD, rS, rb⟩ := hr
      obtain ⟨z1, z2, z3, z4, z5⟩ := hX
      have e2 : (cv ad (.inr (.inr (some SCR)))) = Value.ref b := by show Value.ref (ad SCR) = _; rw [rb.1]
      show W p l e R s mid args below meth c H locs k n Q (F0 mid pc ls (cv ad (.inr (.inr (some SCR))) :: t.map (cv ad)))
      rw [e2]
      refine va_slen hx hb z3 (Nat.lt_of_lt_of_le z4 z5) (Nat.not_le.mpr z4) rS hd ?_
      have e9 : (Int32.ofNat Ls) = Int32.ofInt (σ (SCR + 1) 0) := by have q := rx.2; dsimp only at q; rw [q]; rfl
      rw [e9]
      exact kk ad H locs ls ⟨rl, rL, rv, shift_ok (v := .inl (σ (SCR + 1) 0)) (rh.1 _ _) (fun w hw => rs w (List.mem_cons_of_mem _ hw)), rh, rx, rP, rD, rS, rb⟩ hk hn
    · split at hs
      · rename_i kd ln rf ha
        split at hs
        · rename_i hkd
          split at hs
          · rename_i hv
            cases hs
            intro ad H locs ls hr hk hn
            dsimp only at hr hk hn ⊢
            obtain ⟨rl, rL, rv, rs, rh, rx, rP, rD, rS, rb⟩ := hr
            have he := wsO_get (cA := cA) (ad := ad) (σ := σ) ha
            have kx := kk ad H locs ls ⟨rl, rL, rv, shift_ok (v := .inl (ln : Int)) hv (fun w hw => rs w (List.mem_cons_of_mem _ hw)), rh, rx, rP, rD, rS, rb⟩ hk hn
            match kd, hkd, he with
            | 0, _, he => rw [entO_i] at he; exact va_alen (D := D) (tys := tyL cA) hx hb hK.1 rP a 0 he rfl rfl hd kx
            | 1, _, he => rw [entO_j] at he; exact va_alen (D := D) (tys := tyL cA) hx hb hK.1 rP a 1 he rfl rfl hd kx
            | 2, _, he => rw [entO_z] at he; exact va_alen (D := D) (tys := tyL cA) hx hb hK.1 rP a 2 he rfl rfl hd kx
            | q + 3, hq, _ => exact absurd hq (by omega)
          · cases hs
        · rename_i hkd3
          split at hs
          · rename_i hkd
            split at hs
            · rename_i hv
              cases hs
              intro ad H locs ls hr hk hn
              dsimp only at hr hk hn ⊢
              obtain ⟨rl, rL, rv, rs, rh, rx, rP, rD, rS, rb⟩ := hr
              have he := wsO_get (cA := cA) (ad := ad) (σ := σ) ha
              have kx := kk ad H locs ls ⟨rl, rL, rv, shift_ok (v := .inl (rf.length : Int)) hv (fun w hw => rs w (List.mem_cons_of_mem _ hw)), rh, rx, rP, rD, rS, rb⟩ hk hn
              match kd, hkd3, hkd, he with
              | 3, _, _, he => rw [entO_r] at he; exact va_alen (D := D) (tys := tyL cA) hx hb hK.1 rP a 3 he rfl rfl hd kx
              | 4, _, _, he => rw [entO_p] at he; exact va_alen (D := D) (tys := tyL cA) hx hb hK.1 rP a 4 he rfl rfl hd kx
              | 0, h3, _, _ => exact absurd h3 (by omega)
              | 1, h3, _, _ => exact absurd h3 (by omega)
              | 2, h3, _, _ => exact absurd h3 (by omega)
              | q + 5, _, hq, _ => exact absurd hq (by omega)
            · cases hs
          · cases hs
      · cases hs
  · cases hs
/-- one cell more -/
theorem rs_new {ad : Nat → Nat} {H1 : Heap} {locs : List Loc} {ls : Array Slot} {sh : List SH} {σ : Nat → Nat → Int} {s0 : SH} {q : Nat} {t st0 : List AV} (hn : sh.length < SCR) (hs0 : ∀ r ∈ s0.2.2, ∀ z, r = some z → z = none)
    (rl : lv_has ls (zM_L m) (knL ad 0 L)) (rL : L.length = zM_L m) (rv : ∀ v, some v ∈ L → okV sh.length v ∧ avc v = 1) (rs : ∀ v ∈ t, okV sh.length v) (rh : okH (sh, σ)) (rx : okX Ls xs σ) (rb : ad SCR = b ∧ n0 ≤ sh.length ∧ ∀ a, a < n0 → ad a = ad0 a)
    (w1 : va_P D vwCl (wsO cA ad sh σ ++ [(q, entO cA ad s0 (σ sh.length))]) H1) (w2 : va_D (aS sz0) (wsO cA ad sh σ ++ [(q, entO cA ad s0 (σ sh.length))])) (w3 : va_S (aS sz0) s.heap H1 locs) :
    RS s D cA sz0 b Ls xs ad0 n0 m (adN ad sh.length q) L (.inr (.inr (some sh.length)) :: t) (sh ++ [s0], σ) H1 locs ls ∧ (Sum.inr (Sum.inr (some sh.length)) :: t).map (cv (adN ad sh.length q)) = Value.ref q :: t.map (cv ad) := by
  have e := wsO_new (cA := cA) (ad := ad) (σ := σ) (s := s0) (q := q) rh.2.2.2 (fun r hr z hz a ha => by rw [hs0 r hr z hz] at ha; cases ha) hn
  rw [← e] at w1 w2
  have hlen : (sh ++ [s0]).length = sh.length + 1 := by simp
  have hst : (Sum.inr (Sum.inr (some sh.length)) :: t).map (cv (adN ad sh.length q)) = Value.ref q :: t.map (cv ad) := by
    rw [List.map_cons, cvs_adN rs hn]
    show Value.ref (adN ad sh.length q sh.length) :: _ = _
    unfold adN
    rw [if_pos rfl]
  refine ⟨⟨?_, rL, ?_, ?_, ?_, rx, w1, w2, w3, ?_⟩, hst⟩
  · refine ⟨rl.1, rl.2.1, fun z hz => ?_⟩
    obtain ⟨j, v, h1, rfl⟩ := knL_of _ _ _ hz
    rw [cv_adN (rv v (List.mem_of_getElem? h1)).1 hn]
    exact rl.2.2 _ (knL_in L 0 j v h1)
  · intro v hv
    show okV (sh ++ [s0]).length v ∧ _
    rw [hlen]
    exact ⟨okV_mono (rv v hv).1 (by omega), (rv v hv).2⟩
  · intro v hv
    show okV (sh ++ [s0]).length v
    rw [hlen]
    rcases List.mem_cons.mp hv with rfl | hv
    · intro z hz; cases hz; exact Or.inl (Nat.lt_succ_self _)
    · exact okV_mono (rs v hv) (by omega)
  · obtain ⟨h1, h2, h3, h4⟩ := rh
    refine ⟨h1, fun a' g1 => h2 a' (by have g1 : (sh ++ [s0]).length ≤ a' := g1; rw [hlen] at g1; exact Nat.le_of_succ_le g1), by show (sh ++ [s0]).length ≤ SCR; rw [hlen]; exact hn, fun s' hs' r' hr' z hz => ?_⟩
    show okR (sh ++ [s0]).length z
    rw [hlen]
    rcases List.mem_append.mp hs' with hs' | hs'
    · exact okR_mono (h4 s' hs' r' hr' z hz) (Nat.le_succ _)
    · rw [List.mem_singleton] at hs'
      subst hs'
      rw [hs0 r' hr' z hz]
      exact okR_no _
  · refine ⟨?_, ?_, fun a ha => ?_⟩
    · show adN ad sh.length q SCR = b
      unfold adN
      rw [if_neg (by omega)]
      exact rb.1
    · show n0 ≤ (sh ++ [s0]).length
      rw [hlen]
      exact Nat.le_trans rb.2.1 (Nat.le_succ _)
    · have h9 := rb.2.1
      show adN ad sh.length q a = _
      unfold adN
      rw [if_neg (by omega)]
      exact rb.2.2 a ha
theorem entO_zero0 {cA : Nat → ClassId} {ad : Nat → Nat} {sh : List SH} {σ : Nat → Nat → Int} (rh : okH (sh, σ)) (hn : sh.length < SCR) : σ sh.length = fun _ => 0 := by
  funext k
  exact rh.2.1 _ (Nat.le_refl _) hn k
theorem ra_same {U : State} {c1 c2 : ClassId} {ty : FieldType} (h1 : va_RA U c1 ty) (h2 : va_RA U c2 ty) : c1 = c2 := by
  cases ty with
  | object C =>
    obtain ⟨_, _, _, _, _, a⟩ := h1
    obtain ⟨_, _, _, _, _, b'⟩ := h2
    exact Option.some.inj (a.symm.trans b')
  | _ => exact Option.some.inj (Eq.trans (Eq.symm h1) h2)
theorem s_NewA {at' : ArrayType} {kd : Nat} {ty : FieldType} (hty : newarray.typeOf at' = ty) (hkt : (tyL cA)[kd]? = some (cA kd, ty)) (hk3 : kd < 3) (a0 : Nat → vp_A)
    (ha0 : ∀ (N : Nat) (c1 : ClassId), vp_cell c1 (a0 N) = arrV c1 N (fun _ => defaultValue ty)) (hent : ∀ (ad : Nat → Nat) (N : Nat) (cc : ClassId), cc = cA kd → entO cA ad (kd, N, []) (fun _ => 0) = .inl (cc, a0 N)) (hcb : componentBytes ty ≤ 8) (hw : Cond.arrayClass ty ∈ lwG)
    (C : CX p l R s mid args meth c D cA sz0 b Ls xs m) (hd : decode (zM_b m) pc = .ok (.newarray at', 2)) (hs : zsNewA m kd (pc + 2) L st h k n = some (.inl F')) (kk : GW p l e R s mid args below meth c Q D cA sz0 b Ls xs ad0 n0 m F') : GW p l e R s mid args below meth c Q D cA sz0 b Ls xs ad0 n0 m (pc, L, st, h, k, n) := by
  obtain ⟨hx, hb, hml, hown, hts, hlocks, hin, hfl, hR, hK, hX⟩ := C
  obtain ⟨sh, σ⟩ := h
  unfold zsNewA at hs
  split at hs
  · rename_i x t
    split at hs
    · rename_i hg
      obtain ⟨g1, g2, g3, g4, g5⟩ := hg
      cases hs
      intro ad H locs ls hr hk hn
      dsimp only at hr hk hn ⊢
      obtain ⟨rl, rL, rv, rs, rh, rx, rP, rD, rS, rb⟩ := hr
      have hv : inR x = true := rs _ List.mem_cons_self
      refine va_newa (D := D) (tys := tyL cA) hx hb (by rw [hty]; exact hts _ (lwG_of hw).1 (lwG_of hw).2) hty hK.1 rP rD rS (fun q hq => Nat.le_trans hX.2.2.2.2 hq) (a0 := a0 x.toNat) (ha0 x.toNat) (fun q => by have q2 := (jI_lt hv inR_0).mp q; omega) (jI_clamp hv) ?_ (by rw [hR]; exact g4) (by rw [hR]; exact g5) hd (fun q c1 H1 w0 w1 w2 w3 => ?_)
      · have q1 : x.toNat ≤ 65536 := by omega
        exact Nat.le_trans (Nat.mul_le_mul q1 hcb) (by decide)
      · have ec : c1 = cA kd := by
          have u1 := w0.2 (tyL cA).length (c1, ty) (by rw [List.getElem?_append_right (Nat.le_refl _), Nat.sub_self]; rfl)
          have u2 := hK.1.2 kd _ hkt
          exact ra_same u1.2 u2.2
        rw [← hent ad x.toNat c1 ec, ← entO_zero0 (cA := cA) (ad := ad) rh g3] at w1 w2
        obtain ⟨r1, r2⟩ := rs_new (m := m) (s0 := (kd, x.toNat, [])) (q := q) (t := t) (st0 := t) g3 (fun r hr => absurd hr List.not_mem_nil) rl rL rv (fun w hw => rs w (List.mem_cons_of_mem _ hw)) rh rx rb w1 w2 w3
        have kx := kk (adN ad sh.length q) H1 locs ls r1 g4 g5
        dsimp only at kx
        rw [r2] at kx
        exact kx
    · cases hs
  · cases hs
theorem s_NewQ {x kd : Nat} {Cn : String} (hkt : (tyL cA)[kd]? = some (cA kd, .object Cn)) (hk3 : ¬ kd < 3) (hent : ∀ (ad : Nat → Nat) (N : Nat) (cc : ClassId), cc = cA kd → entO cA ad (kd, 0, List.replicate N (some none)) (fun _ => 0) = .inl (cc, N, .inr (.inr (.inr (.inr (fun _ => none)))))) (hlk : Cond.classLink (zownS (zM_o m)) x Cn ∈ lwG) (hao : va_AO Cn s)
    (C : CX p l R s mid args meth c D cA sz0 b Ls xs m) (hd : decode (zM_b m) pc = .ok (.anewarray x, 3)) (hs : zsNewA m kd (pc + 3) L st h k n = some (.inl F')) (kk : GW p l e R s mid args below meth c Q D cA sz0 b Ls xs ad0 n0 m F') : GW p l e R s mid args below meth c Q D cA sz0 b Ls xs ad0 n0 m (pc, L, st, h, k, n) := by
  obtain ⟨hx, hb, hml, hown, hts, hlocks, hin, hfl, hR, hK, hX⟩ := C
  obtain ⟨sh, σ⟩ := h
  unfold zsNewA at hs
  split at hs
  · rename_i x t
    split at hs
    · rename_i hg
      obtain ⟨g1, g2, g3, g4, g5⟩ := hg
      cases hs
      intro ad H locs ls hr hk hn
      dsimp only at hr hk hn ⊢
      obtain ⟨rl, rL, rv, rs, rh, rx, rP, rD, rS, rb⟩ := hr
      have hv : inR x = true := rs _ List.mem_cons_self
      refine va_newq (D := D) (tys := tyL cA) hx hb hown (hts _ (lwG_of hlk).1 (lwG_of hlk).2) hao hK.1 rP rD rS (fun q hq => Nat.le_trans hX.2.2.2.2 hq) (fun q => by have q2 := (jI_lt hv inR_0).mp q; omega) (jI_clamp hv) ?_ (by rw [hR]; exact g4) (by rw [hR]; exact g5) hd (fun q c1 H1 w0 w1 w2 w3 => ?_)
      · have q1 : x.toNat ≤ 65536 := by omega
        exact Nat.le_trans (Nat.mul_le_mul q1 (Nat.le_refl 4)) (by decide)
      · have ec : c1 = cA kd := by
          have u1 := w0.2 (tyL cA).length (c1, .object Cn) (by rw [List.getElem?_append_right (Nat.le_refl _), Nat.sub_self]; rfl)
          have u2 := hK.1.2 kd _ hkt
          exact ra_same u1.2 u2.2
        rw [← hent ad x.toNat c1 ec, ← entO_zero0 (cA := cA) (ad := ad) rh g3] at w1 w2
        obtain ⟨r1, r2⟩ := rs_new (m := m) (s0 := (kd, 0, List.replicate x.toNat (some none))) (q := q) (t := t) (st0 := t) g3 (fun r hr z hz => by rw [List.eq_of_mem_replicate hr] at hz; exact (Option.some.inj hz).symm) rl rL rv (fun w hw => rs w (List.mem_cons_of_mem _ hw)) rh rx rb w1 w2 w3
        have kx := kk (adN ad sh.length q) H1 locs ls r1 g4 g5
        dsimp only at kx
        rw [r2] at kx
        exact kx
    · cases hs
  · cases hs
theorem s_New {x : Nat} (C : CX p l R s mid args meth c D cA sz0 b Ls xs m) (hd : decode (zM_b m) pc = .ok (.new x, 3)) (hs : zsNew m (zcl (zM_o m) x) (pc + 3) L st h k n = some (.inl F')) (kk : GW p l e R s mid args below meth c Q D cA sz0 b Ls xs ad0 n0 m F') : GW p l e R s mid args below meth c Q D cA sz0 b Ls xs ad0 n0 m (pc, L, st, h, k, n) := by
  obtain ⟨hx, hb, hml, hown, hts, hlocks, hin, hfl, hR, hK, hX⟩ := C
  obtain ⟨sh, σ⟩ := h
  generalize hq : zcl (zM_o m) x = q0 at hs
  unfold zsNew at hs
  split at hs
  · rename_i ci
    split at hs
    · rename_i rf hrf
      split at hs
      · rename_i hg
        obtain ⟨g3, g4, g5⟩ := hg
        cases hs
        obtain ⟨Cn, T, N, hc, hlk⟩ := cl_ok hq
        obtain ⟨ty0, ht1, ht2, rf', hrf', hN, hz0, hdv⟩ := cls_ty hc
        cases hrf.symm.trans hrf'
        intro ad H locs ls hr hk hn
        dsimp only at hr hk hn ⊢
        obtain ⟨rl, rL, rv, rs, rh, rx, rP, rD, rS, rb⟩ := hr
        refine va_new (D := D) (cl := vwCl) (tys := tyL cA) (own := zownS (zM_o m)) (C := Cn) (T := T) (N := N) (ci := ci) (Ts := lwG) (fs := fieldsO ad rf (fun _ => 0)) hx hb (fun w hw => hts w (lwG_of hw).1 (lwG_of hw).2) (cls_in hc).1 ty0 ht1 hown (hts _ (lwG_of hlk).1 (lwG_of hlk).2) (hts _ (lwG_of (cls_in hc).2.1).1 (lwG_of (cls_in hc).2.1).2) (hts _ (lwG_of (cls_in hc).2.2).1 (lwG_of (cls_in hc).2.2).2) hK.1 rP rD rS (fun q hq => Nat.le_trans hX.2.2.2.2 hq) hc (fun j hj => ?_) (by rw [hR]; exact g4) (by rw [hR, ← hN]; exact g5) hd (fun q H1 w1 w2 w3 => ?_)
        · unfold vp_V
          rw [List.getD_eq_getElem?_getD, fieldsO_gt, if_pos (by rw [hN]; exact hj)]
          rcases hdv j hj with ⟨a1, a2⟩ | ⟨a1, a2⟩
          · rw [a1, a2]; rfl
          · rw [a1, a2]; rfl
        · have ee : (Sum.inr (ci, fieldsO ad rf (fun _ => 0)) : va_E) = entO cA ad (ci + 10, 0, rf) (σ sh.length) := by rw [entO_o, entO_zero0 (cA := cA) (ad := ad) rh g3]
          rw [ee] at w1 w2
          obtain ⟨r1, r2⟩ := rs_new (m := m) (s0 := (ci + 10, 0, rf)) (q := q) (t := st) (st0 := st) g3 hz0 rl rL rv rs rh rx rb w1 w2 w3
          have kx := kk (adN ad sh.length q) H1 locs ls r1 g4 g5
          dsimp only at kx
          rw [r2, hN] at kx
          exact kx
      · cases hs
    · cases hs
  · cases hs
end SND2
