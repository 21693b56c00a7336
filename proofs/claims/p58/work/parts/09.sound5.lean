section SND4
variable {p : Program} {l : Launch} {e : Env} {R : Room} {s : State} {mid : MethodId} {args : Array Value} {below : List Frame} {meth : Method} {c : Code} {Q : State → Prop} {D : va_G} {cA : Nat → ClassId} {sz0 b Ls : Nat} {xs : Nat → Int32} {ad0 : Nat → Nat} {n0 m : Nat}
variable {pc k n : Nat} {L : List (Option AV)} {st : List AV} {h : HP} {F' : Fr}
/-- the JDK's three that are walked as one instruction -/
theorem s_CallB {kd x : Nat} (C : CX p l R s mid args meth c D cA sz0 b Ls xs m) (hd : (kd = 0 ∧ decode (zM_b m) pc = .ok (.invokestatic x, 3)) ∨ kd = 1 ∨ (kd = 2 ∧ decode (zM_b m) pc = .ok (.invokespecial x, 3))) (hs : zsCall m kd (zml (zM_o m) x) (pc + 3) L st h k n = some (.inl F')) (kk : GW p l e R s mid args below meth c Q D cA sz0 b Ls xs ad0 n0 m F') : GW p l e R s mid args below meth c Q D cA sz0 b Ls xs ad0 n0 m (pc, L, st, h, k, n) := by
  obtain ⟨hx, hb, hml, hown, hts, hlocks, hin, hfl, hR, hK, hX⟩ := C
  have wd : ∀ {w : Jvm.Cond}, w ∈ lwG → w.before args s = true := fun hw => hts _ (lwG_of hw).1 (lwG_of hw).2
  generalize hq : zml (zM_o m) x = q0 at hs
  unfold zsCall at hs
  split at hs
  · cases hs
  · rename_i j
    have hj := ml_ok hq
    split at hs
    · rename_i hj0
      rcases hj with ⟨-, hlk⟩ | ⟨z, -⟩ | ⟨z, -⟩ | ⟨z, -⟩ <;> try (exact absurd (hj0.symm.trans z) (by decide))
      · split at hs
        · rename_i y x9 t
          split at hs
          · rename_i hg
            cases hs
            obtain ⟨hk0, g1, g2⟩ := hg
            have hd : decode (zM_b m) pc = .ok (.invokestatic x, 3) := by
              rcases hd with ⟨-, q⟩ | q | ⟨q, -⟩
              · exact q
              · exact absurd (hk0.symm.trans q) (by decide)
              · exact absurd (hk0.symm.trans q) (by decide)
            intro ad H locs ls hr hk hn
            dsimp only at hr hk hn ⊢
            obtain ⟨rl, rL, rv, rs, rh, rx, rP, rD, rS, rb⟩ := hr
            have hv2 : inR y = true := rs _ List.mem_cons_self
            have hv : inR x9 = true := rs _ (List.mem_cons_of_mem _ List.mem_cons_self)
            refine va_mmax hx hb (by rw [hml]; exact rl.1.symm) hown (wd hlk) (wd (lwG_in (chkW_in js_max))) (wd (lwG_in (chkW_in js_ini))) (wd jc_max) (by rw [hR]; exact g1) (by rw [cats, hR]; exact g2) (by rw [hR]; exact hk) (by rw [hR]; exact hn) hd ?_
            have e : (if Int32.ofInt x9 < Int32.ofInt y then Int32.ofInt y else Int32.ofInt x9) = Int32.ofInt (if x9 < y then y else x9) := by
              by_cases q : x9 < y
              · rw [if_pos q, if_pos ((jI_lt hv hv2).mpr q)]
              · rw [if_neg q, if_neg (fun z => q ((jI_lt hv hv2).mp z))]
            rw [e]
            exact kk ad H locs ls ⟨rl, rL, rv, shift_ok (v := .inl (if x9 < y then y else x9)) (by show inR _ = true; split <;> assumption) (fun w hw => rs w (List.mem_cons_of_mem _ (List.mem_cons_of_mem _ hw))), rh, rx, rP, rD, rS, rb⟩ hk hn
          · cases hs
        · cases hs
      · exact absurd hj0 z
    · split at hs
      · rename_i hjn hj0
        rcases hj with ⟨z, -⟩ | ⟨-, hlk⟩ | ⟨z, -⟩ | ⟨-, z, -⟩
        · exact absurd z hjn
        · split at hs
          · rename_i y x9 t
            split at hs
            · rename_i hg
              cases hs
              obtain ⟨hk0, g1, g2⟩ := hg
              have hd : decode (zM_b m) pc = .ok (.invokestatic x, 3) := by
                rcases hd with ⟨-, q⟩ | q | ⟨q, -⟩
                · exact q
                · exact absurd (hk0.symm.trans q) (by decide)
                · exact absurd (hk0.symm.trans q) (by decide)
              intro ad H locs ls hr hk hn
              dsimp only at hr hk hn ⊢
              obtain ⟨rl, rL, rv, rs, rh, rx, rP, rD, rS, rb⟩ := hr
              have hv2 : inR y = true := rs _ List.mem_cons_self
              have hv : inR x9 = true := rs _ (List.mem_cons_of_mem _ List.mem_cons_self)
              refine va_mmin hx hb (by rw [hml]; exact rl.1.symm) hown (wd hlk) (wd (lwG_in (chkW_in js_min))) (wd (lwG_in (chkW_in js_ini))) (wd jc_min) (by rw [hR]; exact g1) (by rw [cats, hR]; exact g2) (by rw [hR]; exact hk) (by rw [hR]; exact hn) hd ?_
              have e : (if Int32.ofInt y < Int32.ofInt x9 then Int32.ofInt y else Int32.ofInt x9) = Int32.ofInt (if y < x9 then y else x9) := by
                by_cases q : y < x9
                · rw [if_pos q, if_pos ((jI_lt hv2 hv).mpr q)]
                · rw [if_neg q, if_neg (fun z => q ((jI_lt hv2 hv).mp z))]
              rw [e]
              exact kk ad H locs ls ⟨rl, rL, rv, shift_ok (v := .inl (if y < x9 then y else x9)) (by show inR _ = true; split <;> assumption) (fun w hw => rs w (List.mem_cons_of_mem _ (List.mem_cons_of_mem _ hw))), rh, rx, rP, rD, rS, rb⟩ hk hn
            · cases hs
          · cases hs
        · exact absurd (hj0.symm.trans z) (by decide)
        · exact absurd hj0 z
      · split at hs
        · rename_i hjn hjn2 hj0
          rcases hj with ⟨z, -⟩ | ⟨z, -⟩ | ⟨-, hlk⟩ | ⟨-, -, z, -⟩
          · exact absurd z hjn
          · exact absurd z hjn2
          · split at hs
            · rename_i a t
              split at hs
              · rename_i hg
                cases hs
                obtain ⟨hk0, g1, g2⟩ := hg
                have hd : decode (zM_b m) pc = .ok (.invokespecial x, 3) := by
                  rcases hd with ⟨q, -⟩ | q | ⟨-, q⟩
                  · exact absurd (hk0.symm.trans q) (by decide)
                  · exact absurd (hk0.symm.trans q) (by decide)
                  · exact q
                intro ad H locs ls hr hk hn
                dsimp only at hr hk hn ⊢
                obtain ⟨rl, rL, rv, rs, rh, rx, rP, rD, rS, rb⟩ := hr
                refine W.objInit hx hb hown (wd hlk) (wd (lwG_in (chkW_in js_obj))) (wd jc_obj) rfl (by rw [hml]; exact rl.1) rfl hd (by rw [hR]; exact g1) ?_ ?_
                · show 2 * 0 + ((t.map (cv ad)).map fun v => v.category).sum + 12 ≤ R.locals
                  rw [cats, hR, Nat.mul_zero, Nat.zero_add]; exact g2
                · exact kk ad H locs ls ⟨rl, rL, rv, fun w hw => rs w (List.mem_cons_of_mem _ hw), rh, rx, rP, rD, rS, rb⟩ hk hn
              · cases hs
            · cases hs
          · exact absurd hj0 z
        · dsimp only at hs
          split at hs
          · split at hs
            · split at hs
              · split at hs <;> cases hs
              · cases hs
            · cases hs
            · cases hs
            · cases hs
          · cases hs
theorem s_push {v : AV} {q : Nat} (hv : ∀ N, okV N v) (row : ∀ (ad : Nat → Nat) (H : Heap) (locs : List Loc) (ls : Array Slot) (rest : List Value), W p l e R s mid args below meth c H locs k n Q (F0 mid q ls (cv ad v :: rest)) → W p l e R s mid args below meth c H locs k n Q (F0 mid pc ls rest)) (kk : GW p l e R s mid args below meth c Q D cA sz0 b Ls xs ad0 n0 m (q, L, v :: st, h, k, n)) : GW p l e R s mid args below meth c Q D cA sz0 b Ls xs ad0 n0 m (pc, L, st, h, k, n) :=
  s_stk (fun ad H locs ls w => row ad H locs ls _ w) (fun N hN => shift_ok (hv N) hN) kk
theorem cat1 {ad : Nat → Nat} {v : AV} (h : avc v = 1) : (cv ad v).category = 1 := by rw [cv_cat]; exact h
set_option maxHeartbeats 4000000 in
theorem step_ok {i : Instr} {len : Nat} (hD : DecOK) (C : CX p l R s mid args meth c D cA sz0 b Ls xs m) (ho : zop m pc = some (i, len)) (hs : zstepOp m i pc L st h k n = some (.inl F')) (kk : GW p l e R s mid args below meth c Q D cA sz0 b Ls xs ad0 n0 m F') : GW p l e R s mid args below meth c Q D cA sz0 b Ls xs ad0 n0 m (pc, L, st, h, k, n) := by
  have C0 := C
  obtain ⟨hx, hb, hml, hown, hts, hlocks, hin, hfl, hR, hK, hX⟩ := C
  cases i
  case iload_n j => exact s_ldI j.val (pc + 1) (fun H locs ls x rest hl w => lv_iload_n hx hb (dec_of hD ho (by simp [ilen])) rfl hl w) hs kk
  case iload j => exact s_ldI j (pc + 2) (fun H locs ls x rest hl w => lv_iload hx hb (dec_of hD ho (by simp [ilen])) hl w) hs kk
  case aload_n j =>
    refine s_ldA j.val (pc + 1) (fun H locs ls r ad rest hl w => ?_) hs kk
    cases r with
    | none => exact lv_aload_nN hx hb (dec_of hD ho (by simp [ilen])) rfl hl w
    | some a => exact lv_aload_n hx hb (dec_of hD ho (by simp [ilen])) rfl hl w
  case aload j =>
    refine s_ldA j (pc + 2) (fun H locs ls r ad rest hl w => ?_) hs kk
    cases r with
    | none => exact lv_aloadN hx hb (dec_of hD ho (by simp [ilen])) hl w
    | some a => exact lv_aload hx hb (dec_of hD ho (by simp [ilen])) hl w
  case istore_n j => exact s_stI j.val (pc + 1) (fun H locs ls x rest lv hl hj w => lv_istore_n hx hb (dec_of hD ho (by simp [ilen])) rfl hl hj rfl w) hs kk
  case istore j => exact s_stI j (pc + 2) (fun H locs ls x rest lv hl hj w => lv_istore hx hb (dec_of hD ho (by simp [ilen])) hl hj rfl w) hs kk
  case astore_n j =>
    refine s_stA j.val (pc + 1) (fun H locs ls r ad rest lv hl hj w => ?_) hs kk
    cases r with
    | none => exact lv_astore_nN hx hb (dec_of hD ho (by simp [ilen])) rfl hl hj rfl w
    | some a => exact lv_astore_n hx hb (dec_of hD ho (by simp [ilen])) rfl hl hj rfl w
  case astore j =>
    refine s_stA j (pc + 2) (fun H locs ls r ad rest lv hl hj w => ?_) hs kk
    cases r with
    | none => exact lv_astoreN hx hb (dec_of hD ho (by simp [ilen])) hl hj rfl w
    | some a => exact lv_astore hx hb (dec_of hD ho (by simp [ilen])) hl hj rfl w
  case iconst v => exact s_K (fun H locs ls rest w => lv_iconst hx hb (dec_of hD ho (by simp [ilen])) rfl w) hs kk
  case bipush v =>
    unfold zstepOp at hs
    dsimp only at hs
    split at hs
    · rename_i hv
      exact s_K (fun H locs ls rest w => lv_bipush hx hb (dec_of hD ho (by simp [ilen])) (by rw [← Int32.ofInt_int8ToInt, Int8.toInt_ofInt_of_le (by omega) (by omega)]) w) hs kk
    · cases hs
  case sipush v =>
    unfold zstepOp at hs
    dsimp only at hs
    split at hs
    · rename_i hv
      exact s_K (fun H locs ls rest w => lv_sipush hx hb (dec_of hD ho (by simp [ilen])) (by rw [← Int32.ofInt_int16ToInt, Int16.toInt_ofInt_of_le (by omega) (by omega)]) w) hs kk
    · cases hs
  case ldc x =>
    unfold zstepOp at hs
    dsimp only at hs
    split at hs
    · rename_i v hv
      have hc := ck_ok hv
      exact s_K (fun H locs ls rest w => lv_ldc hx hb hown (hts _ (lwG_of hc).1 (lwG_of hc).2) (dec_of hD ho (by simp [ilen])) w) hs kk
    · cases hs
  case ldc_w x =>
    unfold zstepOp at hs
    dsimp only at hs
    split at hs
    · rename_i v hv
      have hc := ck_ok hv
      exact s_K (fun H locs ls rest w => lv_ldcw hx hb hown (hts _ (lwG_of hc).1 (lwG_of hc).2) (dec_of hD ho (by simp [ilen])) w) hs kk
    · cases hs
  case lconst l9 =>
    unfold zstepOp at hs
    cases hs
    refine s_push (fun N => ?_) (fun ad H locs ls rest w => lv_lconst hx hb (dec_of hD ho (by simp [ilen])) ?_ w) kk
    · have q := l9.isLt
      exact inR_iff.mpr ⟨by omega, by omega⟩
    · rfl
  case aconst_null =>
    unfold zstepOp at hs
    cases hs
    exact s_push (v := .inr (.inr none)) (fun N => okR_no N) (fun ad H locs ls rest w => lv_null hx hb (dec_of hD ho (by simp [ilen])) w) kk
  case iinc j v => exact s_Iinc C0 (dec_of hD ho (by simp [ilen])) hs kk
  case iadd => exact s_Bin (g := fun x y => x + y) (fun x y => Int32.ofInt_add x y) (fun H locs ls x y rest w => lv_iadd hx hb (dec_of hD ho (by simp [ilen])) w) hs kk
  case isub => exact s_Bin (g := fun x y => x - y) (fun x y => Int32.ofInt_sub x y) (fun H locs ls x y rest w => lv_isub hx hb (dec_of hD ho (by simp [ilen])) w) hs kk
  case imul => exact s_Bin (g := fun x y => x * y) (fun x y => Int32.ofInt_mul x y) (fun H locs ls x y rest w => lv_imul hx hb (dec_of hD ho (by simp [ilen])) w) hs kk
  case idiv => exact s_Div (g := fun x y => x / y) (fun x y h1 h2 => tdiv_in h1 h2) (fun x y h1 h2 h3 => jI_tdiv h1 h2 h3) (fun H locs ls x y rest hne w => lv_idiv hx hb (dec_of hD ho (by simp [ilen])) hne w) hs kk
  case irem => exact s_Div (g := fun x y => x - x / y * y) (fun x y h1 h2 => tmod_in h1 h2) (fun x y h1 h2 h3 => jI_tmod h1 h2 h3) (fun H locs ls x y rest hne w => lv_irem hx hb (dec_of hD ho (by simp [ilen])) hne w) hs kk
  case iand => exact s_Bit (fun H locs ls x y rest w => lv_iand hx hb (dec_of hD ho (by simp [ilen])) w) hs kk
  case ior => exact s_Bit (fun H locs ls x y rest w => lv_ior hx hb (dec_of hD ho (by simp [ilen])) w) hs kk
  case ixor => exact s_Bit (fun H locs ls x y rest w => lv_ixor hx hb (dec_of hD ho (by simp [ilen])) w) hs kk
  case ishl => exact s_Bit (fun H locs ls x y rest w => lv_ishl hx hb (dec_of hD ho (by simp [ilen])) w) hs kk
  case ishr => exact s_Bit (fun H locs ls x y rest w => lv_ishr hx hb (dec_of hD ho (by simp [ilen])) w) hs kk
  case iushr => exact s_Bit (fun H locs ls x y rest w => lv_iushr hx hb (dec_of hD ho (by simp [ilen])) rfl w) hs kk
  case ineg =>
    unfold zstepOp at hs
    dsimp only at hs
    split at hs
    · rename_i x t
      split at hs
      · rename_i hv
        cases hs
        exact s_stk (fun ad H locs ls w => lv_ineg hx hb (dec_of hD ho (by simp [ilen])) (by rw [← Int32.ofInt_neg]; exact w)) (fun N hN => shift_ok (v := .inl (-x)) hv (tl_ok N hN)) kk
      · cases hs
    · cases hs
  case i2l => exact s_I2l C0 (dec_of hD ho (by simp [ilen])) hs kk
  case lcmp => exact s_Lcmp C0 (dec_of hD ho (by simp [ilen])) hs kk
  case dup =>
    unfold zstepOp at hs
    dsimp only at hs
    split at hs
    · rename_i v t
      split at hs
      · rename_i hv
        cases hs
        exact s_stk (fun ad H locs ls w => lv_dup hx hb (dec_of hD ho (by simp [ilen])) (cat1 hv) w) (fun N hN => shift_ok (hN v List.mem_cons_self) hN) kk
      · cases hs
    · cases hs
  case dup2 =>
    unfold zstepOp at hs
    dsimp only at hs
    split at hs
    · rename_i v w t
      split at hs
      · rename_i hv
        cases hs
        exact s_stk (fun ad H locs ls z => lv_dup2_11 hx hb (dec_of hD ho (by simp [ilen])) (cat1 hv.1) (cat1 hv.2) z) (fun N hN => shift_ok (hN v List.mem_cons_self) (shift_ok (hN w (List.mem_cons_of_mem _ List.mem_cons_self)) hN)) kk
      · cases hs
    · cases hs
  case pop =>
    unfold zstepOp at hs
    dsimp only at hs
    split at hs
    · rename_i v t
      split at hs
      · rename_i hv
        cases hs
        exact s_stk (fun ad H locs ls z => lv_pop hx hb (dec_of hD ho (by simp [ilen])) (cat1 hv) z) tl_ok kk
      · cases hs
    · cases hs
  case ifCond c9 off => exact s_If C0 (dec_of hD ho (by simp [ilen])) hs kk
  case if_icmp c9 off => exact s_Cmp C0 (dec_of hD ho (by simp [ilen])) hs kk
  case ifnull off => exact s_Nul C0 (dec_of hD ho (by simp [ilen])) hs kk
  case ifnonnull off => exact s_NonNul C0 (dec_of hD ho (by simp [ilen])) hs kk
  case goto off => exact s_jmp (fun ad H locs ls tgt ht _ w => lv_goto hx hb (dec_of hD ho (by simp [ilen])) ht w) (fun N hN => hN) hs kk
  case tableswitch d lo hi offs => exact s_Sw C0 (hD m pc _ ho) hs kk
  case getfield x => exact s_GetF C0 (dec_of hD ho (by simp [ilen])) hs kk
  case putfield x => exact s_PutF C0 (dec_of hD ho (by simp [ilen])) hs kk
  case iaload => exact s_Iald C0 (dec_of hD ho (by simp [ilen])) hs kk
  case iastore => exact s_Iast C0 (dec_of hD ho (by simp [ilen])) hs kk
  case laload => cases hs
  case lastore => cases hs
  case baload => exact s_Zald C0 (dec_of hD ho (by simp [ilen])) hs kk
  case bastore => exact s_Zast C0 (dec_of hD ho (by simp [ilen])) hs kk
  case aaload => exact s_Aald C0 (dec_of hD ho (by simp [ilen])) hs kk
  case aastore => exact s_Aast C0 (dec_of hD ho (by simp [ilen])) hs kk
  case arraylength => exact s_Alen C0 (dec_of hD ho (by simp [ilen])) hs kk
  case newarray at9 =>
    cases at9
    case int => exact s_NewA (kd := 0) (ty := .int) rfl rfl (by decide) (fun N => (N, .inl (fun _ => 0))) (fun N c1 => rfl) (fun ad N cc hc => by rw [hc]; rfl) (by decide) (lwG_in (chkW_in js_ai)) C0 (dec_of hD ho (by simp [ilen])) hs kk
    case long => cases hs
    case boolean => exact s_NewA (kd := 2) (ty := .boolean) rfl rfl (by decide) (fun N => (N, .inl (fun _ => 0))) (fun N c1 => rfl) (fun ad N cc hc => by rw [hc]; rfl) (by decide) (lwG_in (chkW_in js_az)) C0 (dec_of hD ho (by simp [ilen])) hs kk
    all_goals cases hs
  case anewarray x =>
    unfold zstepOp at hs
    dsimp only at hs
    split at hs
    · rename_i hq
      obtain ⟨Cn, T, N, hc, hlk⟩ := cl_ok hq
      cases hc
      exact s_NewQ (kd := 3) rfl (by decide) (fun ad N cc hc => by rw [hc, entO_r, List.length_replicate]; congr; funext j; unfold refsO; rw [List.getD_eq_getElem?_getD, List.getElem?_replicate]; split <;> rfl) hlk hK.2.1 C0 (dec_of hD ho (by simp [ilen])) hs kk
    · split at hs
      · rename_i hq
        obtain ⟨Cn, T, N, hc, hlk⟩ := cl_ok hq
        cases hc
        exact s_NewQ (kd := 4) rfl (by decide) (fun ad N cc hc => by rw [hc, entO_p, List.length_replicate]; congr; funext j; unfold refsO; rw [List.getD_eq_getElem?_getD, List.getElem?_replicate]; split <;> rfl) hlk hK.2.2.1 C0 (dec_of hD ho (by simp [ilen])) hs kk
      · cases hs
  case new x =>
    unfold zstepOp at hs
    dsimp only at hs
    split at hs
    · unfold zsThrow at hs
      split at hs <;> cases hs
    · exact s_New C0 (dec_of hD ho (by simp [ilen])) hs kk
  case invokestatic x => exact s_CallB C0 (Or.inl ⟨rfl, dec_of hD ho (by simp [ilen])⟩) hs kk
  case invokevirtual x => exact s_CallB C0 (Or.inr (Or.inl rfl)) hs kk
  case invokespecial x => exact s_CallB C0 (Or.inr (Or.inr ⟨rfl, dec_of hD ho (by simp [ilen])⟩)) hs kk
  case ireturn =>
    unfold zstepOp zsIret at hs
    dsimp only at hs
    split at hs
    · cases hs
    · split at hs <;> cases hs
    · cases hs
  case areturn =>
    unfold zstepOp zsAret at hs
    dsimp only at hs
    split at hs
    · split at hs <;> cases hs
    · cases hs
  case return_ =>
    unfold zstepOp zsVret at hs
    dsimp only at hs
    split at hs <;> cases hs
  all_goals (cases hs)
end SND4
