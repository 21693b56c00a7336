section SND3
variable {p : Program} {l : Launch} {e : Env} {R : Room} {s : State} {mid : MethodId} {args : Array Value} {below : List Frame} {meth : Method} {c : Code} {Q : State → Prop} {D : va_G} {cA : Nat → ClassId} {sz0 b Ls : Nat} {xs : Nat → Int32} {ad0 : Nat → Nat} {n0 m : Nat}
variable {pc k n : Nat} {L : List (Option AV)} {st : List AV} {h : HP} {F' : Fr}
theorem cmp_row {x y : Int} (hx1 : inR x = true) (hy1 : inR y = true) (cc : Jvm.ClassFile.Cond) {off : Int} {rest : List Value} {H : Heap} {locs : List Loc} {ls : Array Slot} {tgt : Nat} (ht : (pc : Int) + off = (tgt : Int)) (hx : p.tables.exec = Jvm.exec) (hb : c.code = zM_b m) (hd : decode (zM_b m) pc = .ok (.if_icmp cc off, 3))
    (kt : cmpI cc x y = true → W p l e R s mid args below meth c H locs k n Q (F0 mid tgt ls rest)) (kf : cmpI cc x y = false → W p l e R s mid args below meth c H locs k n Q (F0 mid (pc + 3) ls rest)) : W p l e R s mid args below meth c H locs k n Q (F0 mid pc ls (.int (Int32.ofInt y) :: .int (Int32.ofInt x) :: rest)) := by
  cases cc <;> simp only [cmpI, decide_eq_true_eq, decide_eq_false_iff_not] at kt kf
  · exact lv_icmp_eq hx hb hd ht (fun q => kt ((jI_eq hx1 hy1).mp q)) (fun q => kf (fun z => q ((jI_eq hx1 hy1).mpr z)))
  · exact lv_icmp_ne hx hb hd ht (fun q => kt (fun z => q ((jI_eq hx1 hy1).mpr z))) (fun q => kf (fun z => z ((jI_eq hx1 hy1).mp q)))
  · exact lv_icmp_lt hx hb hd ht (fun q => kt ((jI_lt hx1 hy1).mp q)) (fun q => kf (fun z => q ((jI_lt hx1 hy1).mpr z)))
  · exact lv_icmp_ge hx hb hd ht (fun q => kt ((jI_le hy1 hx1).mp q)) (fun q => kf (fun z => q ((jI_le hy1 hx1).mpr z)))
  · exact lv_icmp_gt hx hb hd ht (fun q => kt ((jI_lt hy1 hx1).mp q)) (fun q => kf (fun z => q ((jI_lt hy1 hx1).mpr z)))
  · exact lv_icmp_le hx hb hd ht (fun q => kt ((jI_le hx1 hy1).mp q)) (fun q => kf (fun z => q ((jI_le hx1 hy1).mpr z)))
theorem if_row {x : Int} (hx1 : inR x = true) (cc : Jvm.ClassFile.Cond) {off : Int} {rest : List Value} {H : Heap} {locs : List Loc} {ls : Array Slot} {tgt : Nat} (ht : (pc : Int) + off = (tgt : Int)) (hx : p.tables.exec = Jvm.exec) (hb : c.code = zM_b m) (hd : decode (zM_b m) pc = .ok (.ifCond cc off, 3))
    (kt : cmpI cc x 0 = true → W p l e R s mid args below meth c H locs k n Q (F0 mid tgt ls rest)) (kf : cmpI cc x 0 = false → W p l e R s mid args below meth c H locs k n Q (F0 mid (pc + 3) ls rest)) : W p l e R s mid args below meth c H locs k n Q (F0 mid pc ls (.int (Int32.ofInt x) :: rest)) := by
  cases cc <;> simp only [cmpI, decide_eq_true_eq, decide_eq_false_iff_not] at kt kf
  · exact lv_if_eq hx hb hd ht (fun q => kt ((jI_eq hx1 inR_0).mp q)) (fun q => kf (fun z => q ((jI_eq hx1 inR_0).mpr z)))
  · exact lv_if_ne hx hb hd ht (fun q => kt (fun z => q ((jI_eq hx1 inR_0).mpr z))) (fun q => kf (fun z => z ((jI_eq hx1 inR_0).mp q)))
  · exact lv_if_lt hx hb hd ht (fun q => kt ((jI_lt hx1 inR_0).mp q)) (fun q => kf (fun z => q ((jI_lt hx1 inR_0).mpr z)))
  · exact lv_if_ge hx hb hd ht (fun q => kt ((jI_le inR_0 hx1).mp q)) (fun q => kf (fun z => q ((jI_le inR_0 hx1).mpr z)))
  · exact lv_if_gt hx hb hd ht (fun q => kt ((jI_lt inR_0 hx1).mp q)) (fun q => kf (fun z => q ((jI_lt inR_0 hx1).mpr z)))
  · exact lv_if_le hx hb hd ht (fun q => kt ((jI_le hx1 inR_0).mp q)) (fun q => kf (fun z => q ((jI_le hx1 inR_0).mpr z)))
theorem s_If {cc : Jvm.ClassFile.Cond} {off : Int} (C : CX p l R s mid args meth c D cA sz0 b Ls xs m) (hd : decode (zM_b m) pc = .ok (.ifCond cc off, 3)) (hs : sIf cc off pc L st h k n = some (.inl F')) (kk : GW p l e R s mid args below meth c Q D cA sz0 b Ls xs ad0 n0 m F') : GW p l e R s mid args below meth c Q D cA sz0 b Ls xs ad0 n0 m (pc, L, st, h, k, n) := by
  obtain ⟨hx, hb, -⟩ := C
  unfold sIf at hs
  split at hs
  · rename_i x t
    split at hs
    · rename_i h0
      intro ad H locs ls hr hk hn
      dsimp only at hr hk hn ⊢
      obtain ⟨rl, rL, rv, rs, rh, rx, rP, rD, rS, rb⟩ := hr
      have hv : inR x = true := rs _ List.mem_cons_self
      refine if_row hv cc (Int.toNat_of_nonneg h0).symm hx hb hd (fun q => ?_) (fun q => ?_)
      · rw [if_pos q] at hs
        cases hs
        exact kk ad H locs ls ⟨rl, rL, rv, fun w hw => rs w (List.mem_cons_of_mem _ hw), rh, rx, rP, rD, rS, rb⟩ hk hn
      · rw [if_neg (by rw [q]; exact Bool.false_ne_true)] at hs
        cases hs
        exact kk ad H locs ls ⟨rl, rL, rv, fun w hw => rs w (List.mem_cons_of_mem _ hw), rh, rx, rP, rD, rS, rb⟩ hk hn
    · cases hs
  · cases hs
theorem s_Cmp {cc : Jvm.ClassFile.Cond} {off : Int} (C : CX p l R s mid args meth c D cA sz0 b Ls xs m) (hd : decode (zM_b m) pc = .ok (.if_icmp cc off, 3)) (hs : sCmp cc off pc L st h k n = some (.inl F')) (kk : GW p l e R s mid args below meth c Q D cA sz0 b Ls xs ad0 n0 m F') : GW p l e R s mid args below meth c Q D cA sz0 b Ls xs ad0 n0 m (pc, L, st, h, k, n) := by
  obtain ⟨hx, hb, -⟩ := C
  unfold sCmp at hs
  split at hs
  · rename_i y x t
    split at hs
    · rename_i h0
      intro ad H locs ls hr hk hn
      dsimp only at hr hk hn ⊢
      obtain ⟨rl, rL, rv, rs, rh, rx, rP, rD, rS, rb⟩ := hr
      have hw2 : inR y = true := rs _ List.mem_cons_self
      have hv : inR x = true := rs _ (List.mem_cons_of_mem _ List.mem_cons_self)
      refine cmp_row hv hw2 cc (Int.toNat_of_nonneg h0).symm hx hb hd (fun q => ?_) (fun q => ?_)
      · rw [if_pos q] at hs
        cases hs
        exact kk ad H locs ls ⟨rl, rL, rv, fun w hw => rs w (List.mem_cons_of_mem _ (List.mem_cons_of_mem _ hw)), rh, rx, rP, rD, rS, rb⟩ hk hn
      · rw [if_neg (by rw [q]; exact Bool.false_ne_true)] at hs
        cases hs
        exact kk ad H locs ls ⟨rl, rL, rv, fun w hw => rs w (List.mem_cons_of_mem _ (List.mem_cons_of_mem _ hw)), rh, rx, rP, rD, rS, rb⟩ hk hn
    · cases hs
  · cases hs
theorem tl_ok {t : List AV} {v : AV} : ∀ N, (∀ w ∈ v :: t, okV N w) → ∀ w ∈ t, okV N w := fun _ h w hw => h w (List.mem_cons_of_mem _ hw)
theorem s_Nul {off : Int} (C : CX p l R s mid args meth c D cA sz0 b Ls xs m) (hd : decode (zM_b m) pc = .ok (.ifnull off, 3)) (hs : sNul true off pc L st h k n = some (.inl F')) (kk : GW p l e R s mid args below meth c Q D cA sz0 b Ls xs ad0 n0 m F') : GW p l e R s mid args below meth c Q D cA sz0 b Ls xs ad0 n0 m (pc, L, st, h, k, n) := by
  obtain ⟨hx, hb, -⟩ := C
  unfold sNul at hs
  split at hs
  · rename_i r t
    cases r with
    | none =>
      rw [if_pos (show (none : Option Nat).isNone = true from rfl)] at hs
      exact s_jmp (fun ad H locs ls tgt ht _ w => lv_ifnullN hx hb hd ht w) tl_ok hs kk
    | some a =>
      rw [if_neg (show ¬ (some a).isNone = true by simp)] at hs
      cases hs
      exact s_stk (fun ad H locs ls w => lv_ifnull hx hb hd w) tl_ok kk
  · cases hs
theorem s_NonNul {off : Int} (C : CX p l R s mid args meth c D cA sz0 b Ls xs m) (hd : decode (zM_b m) pc = .ok (.ifnonnull off, 3)) (hs : sNul false off pc L st h k n = some (.inl F')) (kk : GW p l e R s mid args below meth c Q D cA sz0 b Ls xs ad0 n0 m F') : GW p l e R s mid args below meth c Q D cA sz0 b Ls xs ad0 n0 m (pc, L, st, h, k, n) := by
  obtain ⟨hx, hb, -⟩ := C
  unfold sNul at hs
  split at hs
  · rename_i r t
    cases r with
    | none =>
      rw [if_neg (show ¬ (none : Option Nat).isNone = false by simp)] at hs
      cases hs
      exact s_stk (fun ad H locs ls w => lv_ifnonnullN hx hb hd w) tl_ok kk
    | some a =>
      rw [if_pos (show (some a).isNone = false from rfl)] at hs
      exact s_jmp (fun ad H locs ls tgt ht _ w => lv_ifnonnull hx hb hd ht w) tl_ok hs kk
  · cases hs
theorem s_Sw {d lo hi : Int} {offs : Array Int} {len : Nat} (C : CX p l R s mid args meth c D cA sz0 b Ls xs m) (hd : decode (zM_b m) pc = .ok (.tableswitch d lo hi offs, len)) (hs : sSw d lo hi offs pc L st h k n = some (.inl F')) (kk : GW p l e R s mid args below meth c Q D cA sz0 b Ls xs ad0 n0 m F') : GW p l e R s mid args below meth c Q D cA sz0 b Ls xs ad0 n0 m (pc, L, st, h, k, n) := by
  obtain ⟨hx, hb, -⟩ := C
  unfold sSw at hs
  split at hs
  · rename_i x t
    split at hs
    · rename_i hq
      exact s_jmp (fun ad H locs ls tgt ht rs w => lv_tableOut hx hb hd (by rw [jI_toInt (rs _ List.mem_cons_self)]; exact hq) ht w) tl_ok hs kk
    · rename_i hq
      split at hs
      · rename_i off ho
        exact s_jmp (fun ad H locs ls tgt ht rs w => lv_tableIn hx hb hd (by rw [jI_toInt (rs _ List.mem_cons_self)]; exact fun z => hq (Or.inl z)) (by rw [jI_toInt (rs _ List.mem_cons_self)]; exact fun z => hq (Or.inr z)) (by rw [jI_toInt (rs _ List.mem_cons_self)]; exact ho) ht w) tl_ok hs kk
      · cases hs
  · cases hs
theorem s_Div {f : Int → Int → Int} {g : Int32 → Int32 → Int32} (hfi : ∀ x y, inR x = true → 0 < y → inR (f x y) = true) (hfg : ∀ x y, inR x = true → inR y = true → 0 < y → Int32.ofInt (f x y) = g (Int32.ofInt x) (Int32.ofInt y)) (row : ∀ (H : Heap) (locs : List Loc) (ls : Array Slot) (x y : Int32) (rest : List Value), ¬ y = 0 → W p l e R s mid args below meth c H locs k n Q (F0 mid (pc + 1) ls (.int (g x y) :: rest)) → W p l e R s mid args below meth c H locs k n Q (F0 mid pc ls (.int y :: .int x :: rest)))
    (hs : sDiv f (pc + 1) L st h k n = some (.inl F')) (kk : GW p l e R s mid args below meth c Q D cA sz0 b Ls xs ad0 n0 m F') : GW p l e R s mid args below meth c Q D cA sz0 b Ls xs ad0 n0 m (pc, L, st, h, k, n) := by
  unfold sDiv at hs
  split at hs
  · rename_i y x t
    split at hs
    · rename_i hy0
      cases hs
      intro ad H locs ls hr hk hn
      dsimp only at hr hk hn ⊢
      obtain ⟨rl, rL, rv, rs, rh, rx, rP, rD, rS, rb⟩ := hr
      have hw2 : inR y = true := rs _ List.mem_cons_self
      have hv : inR x = true := rs _ (List.mem_cons_of_mem _ List.mem_cons_self)
      refine row H locs ls _ _ _ (fun q => ?_) ?_
      · have q2 := (jI_eq hw2 inR_0).mp q
        omega
      · rw [← hfg x y hv hw2 hy0]
        exact kk ad H locs ls ⟨rl, rL, rv, shift_ok (v := .inl (f x y)) (hfi x y hv hy0) (fun w hw => rs w (List.mem_cons_of_mem _ (List.mem_cons_of_mem _ hw))), rh, rx, rP, rD, rS, rb⟩ hk hn
    · cases hs
  · cases hs
theorem jI_tdiv {x y : Int} (hx : inR x = true) (hy : inR y = true) (h0 : 0 < y) : Int32.ofInt (Int.tdiv x y) = Int32.ofInt x / Int32.ofInt y := by
  apply Int32.toInt_inj.mp
  have e : Int32.ofInt y ≠ -1 := fun q => by
    have q2 := (jI_eq hy (show inR (-1) = true by decide)).mp q
    omega
  rw [Int32.toInt_div_of_ne_right _ _ e, jI_toInt hx, jI_toInt hy, jI_toInt (tdiv_in hx h0)]
theorem jI_tmod {x y : Int} (hx : inR x = true) (hy : inR y = true) (h0 : 0 < y) : Int32.ofInt (Int.tmod x y) = Int32.ofInt x - Int32.ofInt x / Int32.ofInt y * Int32.ofInt y := by
  rw [← jI_tdiv hx hy h0, ← Int32.ofInt_mul, ← Int32.ofInt_sub, Int.tmod_def, Int.mul_comm]
theorem s_Iinc {j : Nat} {v : Int} (C : CX p l R s mid args meth c D cA sz0 b Ls xs m) (hd : decode (zM_b m) pc = .ok (.iinc j v, 3)) (hs : zstepOp m (.iinc j v) pc L st h k n = some (.inl F')) (kk : GW p l e R s mid args below meth c Q D cA sz0 b Ls xs ad0 n0 m F') : GW p l e R s mid args below meth c Q D cA sz0 b Ls xs ad0 n0 m (pc, L, st, h, k, n) := by
  obtain ⟨hx, hb, -⟩ := C
  unfold zstepOp at hs
  dsimp only at hs
  split at hs
  · rename_i x hj
    split at hs
    · rename_i hv
      cases hs
      intro ad H locs ls hr hk hn
      dsimp only at hr hk hn ⊢
      obtain ⟨rl, rL, rv, rs, rh, rx, rP, rD, rS, rb⟩ := hr
      have hjl := lt_of_at hj
      have hm := knL_in (ad := ad) L 0 j _ hj
      rw [Nat.zero_add] at hm
      obtain ⟨q, hq⟩ := List.getElem?_of_mem hm
      refine lv_iinc (lv := knL ad 0 L) hx hb hd rl (k := q) hq (v := Int32.ofInt (x + v)) (by rw [Int32.ofInt_add]) (by omega) rfl (fun ls' hl => kk ad H locs ls' ⟨has_set (v := .inl (x + v)) (fun w hw => (rv w hw).2) hjl hl, by rw [List.length_set]; exact rL, ?_, rs, rh, rx, rP, rD, rS, rb⟩ hk hn)
      intro w hw
      rcases mem_set_some hw with rfl | hw
      · exact ⟨hv, rfl⟩
      · exact rv w hw
    · cases hs
  · cases hs
theorem jL_of {x : Int} : (Int32.ofInt x).toInt64 = Int64.ofInt x ∨ True := Or.inr trivial
theorem s_I2l (C : CX p l R s mid args meth c D cA sz0 b Ls xs m) (hd : decode (zM_b m) pc = .ok (.i2l, 1)) (hs : zstepOp m .i2l pc L st h k n = some (.inl F')) (kk : GW p l e R s mid args below meth c Q D cA sz0 b Ls xs ad0 n0 m F') : GW p l e R s mid args below meth c Q D cA sz0 b Ls xs ad0 n0 m (pc, L, st, h, k, n) := by
  obtain ⟨hx, hb, -⟩ := C
  unfold zstepOp at hs
  dsimp only at hs
  split at hs
  · rename_i x t
    cases hs
    refine s_stk2 (fun ad H locs ls rs w => lv_i2l hx hb hd ?_ w) (fun N hN w hw => ?_) kk
    · apply Int64.toInt_inj.mp
      have hv : inR x = true := rs _ List.mem_cons_self
      rw [Int32.toInt_toInt64, jI_toInt hv, jL_toInt hv]
    · rcases List.mem_cons.mp hw with rfl | hw
      · exact hN (.inl x) List.mem_cons_self
      · exact hN w (List.mem_cons_of_mem _ hw)
  · cases hs
theorem s_Lcmp (C : CX p l R s mid args meth c D cA sz0 b Ls xs m) (hd : decode (zM_b m) pc = .ok (.lcmp, 1)) (hs : zstepOp m .lcmp pc L st h k n = some (.inl F')) (kk : GW p l e R s mid args below meth c Q D cA sz0 b Ls xs ad0 n0 m F') : GW p l e R s mid args below meth c Q D cA sz0 b Ls xs ad0 n0 m (pc, L, st, h, k, n) := by
  obtain ⟨hx, hb, -⟩ := C
  unfold zstepOp at hs
  dsimp only at hs
  split at hs
  · rename_i y x t
    cases hs
    refine s_stk2 (fun ad H locs ls rs w => W.lcmp hx hb hd ?_) (fun N hN w hw => ?_) kk
    · have hw2 : inR y = true := rs _ List.mem_cons_self
      have hv : inR x = true := rs _ (List.mem_cons_of_mem _ List.mem_cons_self)
      have e : lg_cmp (Int64.ofInt x) (Int64.ofInt y) = Int32.ofInt (if y < x then 1 else if x = y then 0 else -1) := by
        unfold lg_cmp
        by_cases q1 : y < x
        · rw [if_pos q1, if_pos ((jL_lt hw2 hv).mpr q1)]; rfl
        · rw [if_neg q1, if_neg (fun z => q1 ((jL_lt hw2 hv).mp z))]
          by_cases q2 : x = y
          · rw [if_pos q2, if_pos ((jL_eq hv hw2).mpr q2)]; rfl
          · rw [if_neg q2, if_neg (fun z => q2 ((jL_eq hv hw2).mp z))]; rfl
      rw [e]
      exact w
    · rcases List.mem_cons.mp hw with rfl | hw
      · show inR _ = true
        split
        · decide
        · split <;> decide
      · exact hN w (List.mem_cons_of_mem _ (List.mem_cons_of_mem _ hw))
  · cases hs
end SND3
