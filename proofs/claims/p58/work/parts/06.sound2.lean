/-! A frame of the machine and the interpreter's: one instruction. -/
def tyL (cA : Nat → ClassId) : List (ClassId × FieldType) := [(cA 0, .int), (cA 1, .int), (cA 2, .boolean), (cA 3, .object "PatchBench$Row"), (cA 4, .object "PatchBench$Patch")]
def aS (sz0 : Nat) : Nat → Prop := fun q => sz0 ≤ q
/-- what the tables know, at any state of the zrun -/
def KX (D : va_G) (cA : Nat → ClassId) (U : State) : Prop :=
  va_K D vwCl (tyL cA) U ∧ va_AO "PatchBench$Row" U ∧ va_AO "PatchBench$Patch" U ∧ (∀ E, E < 3 → va_Nw (.castable (exS E) (exS E)) U) ∧ (∀ w ∈ exD, va_Nw w U) ∧ (∀ E E', E < 3 → E' = 2 → E ≠ E' → va_Nc (exS E) (exS E') U) ∧
  (∀ q ∈ strT, ∃ sa, vk_R q.1 q.2.1 q.2.2 sa U) ∧ ∀ w ∈ lw_tbl, goodWord w = true → w.before #[] U = true
/-- what of the heap no method changes -/
def HX (sz0 b Ls : Nat) (xs : Nat → Int32) (U : State) (H : Heap) : Prop :=
  vx_Zq Bundle.tN "UNASSIGNED_STACK" Bundle.steD (aS sz0) U H ∧ vx_Zq Bundle.tN "SUPPRESSED_SENTINEL" Bundle.listD (aS sz0) U H ∧ va_X b Ls xs U H ∧ b < sz0 ∧ sz0 ≤ H.size
def rmOf (m : Nat) : Room := { frames := zM_f m, cells := zM_mc m, slots := zM_ms m, locals := zM_lo m }
def CX (p : Program) (l : Launch) (R : Room) (s : State) (mid : MethodId) (args : Array Value) (meth : Method) (c : Code) (D : va_G) (cA : Nat → ClassId) (sz0 b Ls : Nat) (xs : Nat → Int32) (m : Nat) : Prop :=
  p.tables.exec = Jvm.exec ∧ c.code = zM_b m ∧ c.maxLocals = zM_L m ∧ s.vm.findClass (zownS (zM_o m)) = some mid.cls ∧ (∀ w ∈ lw_tbl, goodWord w = true → w.before args s = true) ∧ (meth.locks = false ∧ (m = 0 ∨ c.exceptionTable.toList = tableOf (M_h4 m)) ∧ meth.sig.returnType = zM_ret m) ∧ (zM_k m = 2 → meth.name = "<init>") ∧ l.stackTraces = false ∧ R = rmOf m ∧ KX D cA s ∧ HX sz0 b Ls xs s s.heap
/-- the interpreter's frame tells of the machine's -/
def RS (s : State) (D : va_G) (cA : Nat → ClassId) (sz0 b Ls : Nat) (xs : Nat → Int32) (ad0 : Nat → Nat) (n0 : Nat) (m : Nat) (ad : Nat → Nat) (L : List (Option AV)) (st : List AV) (h : HP) (H : Heap) (locs : List Loc) (ls : Array Slot) : Prop :=
  lv_has ls (zM_L m) (knL ad 0 L) ∧ L.length = zM_L m ∧ (∀ v, some v ∈ L → okV h.1.length v ∧ avc v = 1) ∧ (∀ v ∈ st, okV h.1.length v) ∧ okH h ∧ okX Ls xs h.2 ∧
  va_P D vwCl (wsO cA ad h.1 h.2) H ∧ va_D (aS sz0) (wsO cA ad h.1 h.2) ∧ va_S (aS sz0) s.heap H locs ∧ ad SCR = b ∧ n0 ≤ h.1.length ∧ ∀ a, a < n0 → ad a = ad0 a
def GW (p : Program) (l : Launch) (e : Env) (R : Room) (s : State) (mid : MethodId) (args : Array Value) (below : List Frame) (meth : Method) (c : Code) (Q : State → Prop) (D : va_G) (cA : Nat → ClassId) (sz0 b Ls : Nat) (xs : Nat → Int32) (ad0 : Nat → Nat) (n0 : Nat) (m : Nat) (F : Fr) : Prop :=
  ∀ (ad : Nat → Nat) (H : Heap) (locs : List Loc) (ls : Array Slot), RS s D cA sz0 b Ls xs ad0 n0 m ad F.2.1 F.2.2.1 F.2.2.2.1 H locs ls → F.2.2.2.2.1 ≤ zM_mc m → F.2.2.2.2.2 ≤ zM_ms m → W p l e R s mid args below meth c H locs F.2.2.2.2.1 F.2.2.2.2.2 Q (F0 mid F.1 ls (F.2.2.1.map (cv ad)))
section SND
variable {p : Program} {l : Launch} {e : Env} {R : Room} {s : State} {mid : MethodId} {args : Array Value} {below : List Frame} {meth : Method} {c : Code} {Q : State → Prop} {D : va_G} {cA : Nat → ClassId} {sz0 b Ls : Nat} {xs : Nat → Int32} {ad0 : Nat → Nat} {n0 m : Nat}
variable {pc k n : Nat} {L : List (Option AV)} {st : List AV} {h : HP} {F' : Fr}
def DecOK : Prop := ∀ m pc x, zop m pc = some x → decode (zM_b m) pc = .ok x
theorem op_len {m pc len : Nat} {i : Instr} (h : zop m pc = some (i, len)) : len = ilen i ∨ ilen i = 0 := by
  have h1 : (pc, i, len) ∈ zM_c m := lkup_mem h
  have hm : m < nMeth := by
    rcases Nat.lt_or_ge m nMeth with q | q
    · exact q
    · have e : zM_r m = mrNo := by unfold zM_r; rw [List.getD_eq_getElem?_getD, List.getElem?_eq_none (by rw [mtab_len]; exact q)]; rfl
      unfold zM_c at h1
      rw [e] at h1
      cases h1
  have h2 := List.all_eq_true.mp okN_all m (List.mem_range.mpr hm)
  have h3 := List.all_eq_true.mp h2 _ h1
  rw [Bool.or_eq_true] at h3
  rcases h3 with h3 | h3
  · exact Or.inl (eq_of_beq h3)
  · exact Or.inr (eq_of_beq h3)
theorem dec_of (hd : DecOK) {m pc len : Nat} {i : Instr} (h : zop m pc = some (i, len)) (hi : ¬ ilen i = 0) : decode (zM_b m) pc = .ok (i, ilen i) := by
  have h1 := hd m pc _ h
  rcases op_len h with q | q
  · rw [q] at h1; exact h1
  · exact absurd q hi
theorem mem_set_some {L : List (Option AV)} {j : Nat} {v w : AV} (h : some w ∈ L.set j (some v)) : w = v ∨ some w ∈ L := by
  rcases List.mem_or_eq_of_mem_set h with q | q
  · exact Or.inr q
  · exact Or.inl (Option.some.inj q)
theorem s_ldI (j q : Nat) (row : ∀ (H : Heap) (locs : List Loc) (ls : Array Slot) (x : Int32) (rest : List Value), ls[j]? = some (.val (.int x)) → W p l e R s mid args below meth c H locs k n Q (F0 mid q ls (.int x :: rest)) → W p l e R s mid args below meth c H locs k n Q (F0 mid pc ls rest))
    (hs : sLdI j q L st h k n = some (.inl F')) (kk : GW p l e R s mid args below meth c Q D cA sz0 b Ls xs ad0 n0 m F') : GW p l e R s mid args below meth c Q D cA sz0 b Ls xs ad0 n0 m (pc, L, st, h, k, n) := by
  intro ad H locs ls hr hk hn
  dsimp only at hr hk hn ⊢
  obtain ⟨rl, rL, rv, rs, rh, rx, rP, rD, rS, rb⟩ := hr
  unfold sLdI at hs
  split at hs
  · rename_i x hj
    cases hs
    have hv := rv _ (List.mem_of_getElem? hj)
    refine row H locs ls (Int32.ofInt x) _ ?_ (kk ad H locs ls ⟨rl, rL, rv, ?_, rh, rx, rP, rD, rS, rb⟩ hk hn)
    · have h1 := rl.2.2 _ (knL_in L 0 j _ hj)
      rw [Nat.zero_add] at h1
      exact h1
    · intro v hv'
      rcases List.mem_cons.mp hv' with rfl | hv'
      · exact hv.1
      · exact rs v hv'
  · cases hs
theorem s_ldA (j q : Nat) (row : ∀ (H : Heap) (locs : List Loc) (ls : Array Slot) (r : Option Nat) (ad : Nat → Nat) (rest : List Value), ls[j]? = some (.val (rvO ad r)) → W p l e R s mid args below meth c H locs k n Q (F0 mid q ls (rvO ad r :: rest)) → W p l e R s mid args below meth c H locs k n Q (F0 mid pc ls rest))
    (hs : sLdA j q L st h k n = some (.inl F')) (kk : GW p l e R s mid args below meth c Q D cA sz0 b Ls xs ad0 n0 m F') : GW p l e R s mid args below meth c Q D cA sz0 b Ls xs ad0 n0 m (pc, L, st, h, k, n) := by
  intro ad H locs ls hr hk hn
  dsimp only at hr hk hn ⊢
  obtain ⟨rl, rL, rv, rs, rh, rx, rP, rD, rS, rb⟩ := hr
  unfold sLdA at hs
  split at hs
  · rename_i r hj
    cases hs
    have hv := rv _ (List.mem_of_getElem? hj)
    refine row H locs ls r ad _ ?_ (kk ad H locs ls ⟨rl, rL, rv, ?_, rh, rx, rP, rD, rS, rb⟩ hk hn)
    · have h1 := rl.2.2 _ (knL_in L 0 j _ hj)
      rw [Nat.zero_add] at h1
      exact h1
    · intro v hv'
      rcases List.mem_cons.mp hv' with rfl | hv'
      · exact hv.1
      · exact rs v hv'
  · cases hs
theorem s_stI (j q : Nat) (row : ∀ (H : Heap) (locs : List Loc) (ls : Array Slot) (x : Int32) (rest : List Value) (lv : List (Nat × Value)), lv_has ls (zM_L m) lv → j < zM_L m → (∀ ls' : Array Slot, lv_has ls' (zM_L m) ((j, Value.int x) :: lv.filter (fun q => !(q.1 == j) && !(q.1 + 1 == j && q.2.category == 2))) → W p l e R s mid args below meth c H locs k n Q (F0 mid q ls' rest)) → W p l e R s mid args below meth c H locs k n Q (F0 mid pc ls (.int x :: rest)))
    (hs : sStI j q L st h k n = some (.inl F')) (kk : GW p l e R s mid args below meth c Q D cA sz0 b Ls xs ad0 n0 m F') : GW p l e R s mid args below meth c Q D cA sz0 b Ls xs ad0 n0 m (pc, L, st, h, k, n) := by
  intro ad H locs ls hr hk hn
  dsimp only at hr hk hn ⊢
  obtain ⟨rl, rL, rv, rs, rh, rx, rP, rD, rS, rb⟩ := hr
  unfold sStI at hs
  split at hs
  · rename_i x t
    split at hs
    · rename_i hj
      cases hs
      have hv := rs _ List.mem_cons_self
      refine row H locs ls (Int32.ofInt x) _ _ rl (by omega) (fun ls' hl => kk ad H locs ls' ⟨has_set (v := .inl x) (fun w hw => (rv w hw).2) hj hl, by rw [List.length_set]; exact rL, ?_, fun v hv => rs v (List.mem_cons_of_mem _ hv), rh, rx, rP, rD, rS, rb⟩ hk hn)
      intro v hv'
      rcases mem_set_some hv' with rfl | hv'
      · exact ⟨hv, rfl⟩
      · exact rv v hv'
    · cases hs
  · cases hs
theorem s_stA (j q : Nat) (row : ∀ (H : Heap) (locs : List Loc) (ls : Array Slot) (r : Option Nat) (ad : Nat → Nat) (rest : List Value) (lv : List (Nat × Value)), lv_has ls (zM_L m) lv → j < zM_L m → (∀ ls' : Array Slot, lv_has ls' (zM_L m) ((j, rvO ad r) :: lv.filter (fun q => !(q.1 == j) && !(q.1 + 1 == j && q.2.category == 2))) → W p l e R s mid args below meth c H locs k n Q (F0 mid q ls' rest)) → W p l e R s mid args below meth c H locs k n Q (F0 mid pc ls (rvO ad r :: rest)))
    (hs : sStA j q L st h k n = some (.inl F')) (kk : GW p l e R s mid args below meth c Q D cA sz0 b Ls xs ad0 n0 m F') : GW p l e R s mid args below meth c Q D cA sz0 b Ls xs ad0 n0 m (pc, L, st, h, k, n) := by
  intro ad H locs ls hr hk hn
  dsimp only at hr hk hn ⊢
  obtain ⟨rl, rL, rv, rs, rh, rx, rP, rD, rS, rb⟩ := hr
  unfold sStA at hs
  split at hs
  · rename_i r t
    split at hs
    · rename_i hj
      cases hs
      have hv := rs _ List.mem_cons_self
      refine row H locs ls r ad _ _ rl (by omega) (fun ls' hl => kk ad H locs ls' ⟨has_set (v := .inr (.inr r)) (fun w hw => (rv w hw).2) hj hl, by rw [List.length_set]; exact rL, ?_, fun v hv => rs v (List.mem_cons_of_mem _ hv), rh, rx, rP, rD, rS, rb⟩ hk hn)
      intro v hv'
      rcases mem_set_some hv' with rfl | hv'
      · exact ⟨hv, rfl⟩
      · exact rv v hv'
    · cases hs
  · cases hs
/-- the stack alone changes -/
theorem s_stk {st' : List AV} {q : Nat} (row : ∀ (ad : Nat → Nat) (H : Heap) (locs : List Loc) (ls : Array Slot), W p l e R s mid args below meth c H locs k n Q (F0 mid q ls (st'.map (cv ad))) → W p l e R s mid args below meth c H locs k n Q (F0 mid pc ls (st.map (cv ad))))
    (ok : ∀ N, (∀ v ∈ st, okV N v) → ∀ v ∈ st', okV N v) (kk : GW p l e R s mid args below meth c Q D cA sz0 b Ls xs ad0 n0 m (q, L, st', h, k, n)) : GW p l e R s mid args below meth c Q D cA sz0 b Ls xs ad0 n0 m (pc, L, st, h, k, n) := by
  intro ad H locs ls hr hk hn
  dsimp only at hr hk hn ⊢
  obtain ⟨rl, rL, rv, rs, rh, rx, rP, rD, rS, rb⟩ := hr
  exact row ad H locs ls (kk ad H locs ls ⟨rl, rL, rv, ok _ rs, rh, rx, rP, rD, rS, rb⟩ hk hn)
/-- the same, where the values' ranges count -/
theorem s_stk2 {st' : List AV} {q : Nat} (row : ∀ (ad : Nat → Nat) (H : Heap) (locs : List Loc) (ls : Array Slot), (∀ v ∈ st, okV h.1.length v) → W p l e R s mid args below meth c H locs k n Q (F0 mid q ls (st'.map (cv ad))) → W p l e R s mid args below meth c H locs k n Q (F0 mid pc ls (st.map (cv ad))))
    (ok : ∀ N, (∀ v ∈ st, okV N v) → ∀ v ∈ st', okV N v) (kk : GW p l e R s mid args below meth c Q D cA sz0 b Ls xs ad0 n0 m (q, L, st', h, k, n)) : GW p l e R s mid args below meth c Q D cA sz0 b Ls xs ad0 n0 m (pc, L, st, h, k, n) := by
  intro ad H locs ls hr hk hn
  dsimp only at hr hk hn ⊢
  obtain ⟨rl, rL, rv, rs, rh, rx, rP, rD, rS, rb⟩ := hr
  exact row ad H locs ls rs (kk ad H locs ls ⟨rl, rL, rv, ok _ rs, rh, rx, rP, rD, rS, rb⟩ hk hn)
theorem s_K {v : Int} {q : Nat} (row : ∀ (H : Heap) (locs : List Loc) (ls : Array Slot) (rest : List Value), W p l e R s mid args below meth c H locs k n Q (F0 mid q ls (.int (Int32.ofInt v) :: rest)) → W p l e R s mid args below meth c H locs k n Q (F0 mid pc ls rest))
    (hs : sK v q L st h k n = some (.inl F')) (kk : GW p l e R s mid args below meth c Q D cA sz0 b Ls xs ad0 n0 m F') : GW p l e R s mid args below meth c Q D cA sz0 b Ls xs ad0 n0 m (pc, L, st, h, k, n) := by
  unfold sK at hs
  split at hs
  · rename_i hv
    cases hs
    refine s_stk (fun ad H locs ls w => row H locs ls _ w) (fun N hN w hw => ?_) kk
    rcases List.mem_cons.mp hw with rfl | hw
    · exact hv
    · exact hN w hw
  · cases hs
theorem s_Bin {f : Int → Int → Int} {g : Int32 → Int32 → Int32} (hfg : ∀ x y, Int32.ofInt (f x y) = g (Int32.ofInt x) (Int32.ofInt y)) (row : ∀ (H : Heap) (locs : List Loc) (ls : Array Slot) (x y : Int32) (rest : List Value), W p l e R s mid args below meth c H locs k n Q (F0 mid (pc + 1) ls (.int (g x y) :: rest)) → W p l e R s mid args below meth c H locs k n Q (F0 mid pc ls (.int y :: .int x :: rest)))
    (hs : sBin f (pc + 1) L st h k n = some (.inl F')) (kk : GW p l e R s mid args below meth c Q D cA sz0 b Ls xs ad0 n0 m F') : GW p l e R s mid args below meth c Q D cA sz0 b Ls xs ad0 n0 m (pc, L, st, h, k, n) := by
  unfold sBin at hs
  split at hs
  · rename_i y x t
    split at hs
    · rename_i hv
      cases hs
      refine s_stk (fun ad H locs ls w => row H locs ls _ _ _ (by rw [← hfg]; exact w)) (fun N hN w hw => ?_) kk
      rcases List.mem_cons.mp hw with rfl | hw
      · exact hv
      · exact hN w (List.mem_cons_of_mem _ (List.mem_cons_of_mem _ hw))
    · cases hs
  · cases hs
theorem s_Bit {g : Int32 → Int32 → Int32} (row : ∀ (H : Heap) (locs : List Loc) (ls : Array Slot) (x y : Int32) (rest : List Value), W p l e R s mid args below meth c H locs k n Q (F0 mid (pc + 1) ls (.int (g x y) :: rest)) → W p l e R s mid args below meth c H locs k n Q (F0 mid pc ls (.int y :: .int x :: rest)))
    (hs : sBit g (pc + 1) L st h k n = some (.inl F')) (kk : GW p l e R s mid args below meth c Q D cA sz0 b Ls xs ad0 n0 m F') : GW p l e R s mid args below meth c Q D cA sz0 b Ls xs ad0 n0 m (pc, L, st, h, k, n) := by
  unfold sBit at hs
  split at hs
  · rename_i y x t
    cases hs
    refine s_stk (fun ad H locs ls w => row H locs ls _ _ _ (by rw [← bit32_of g]; exact w)) (fun N hN w hw => ?_) kk
    rcases List.mem_cons.mp hw with rfl | hw
    · exact bit32_in _ _ _
    · exact hN w (List.mem_cons_of_mem _ (List.mem_cons_of_mem _ hw))
  · cases hs
theorem s_jmp {off : Int} {t : List AV} (row : ∀ (ad : Nat → Nat) (H : Heap) (locs : List Loc) (ls : Array Slot) (tgt : Nat), (pc : Int) + off = (tgt : Int) → (∀ v ∈ st, okV h.1.length v) → W p l e R s mid args below meth c H locs k n Q (F0 mid tgt ls (t.map (cv ad))) → W p l e R s mid args below meth c H locs k n Q (F0 mid pc ls (st.map (cv ad))))
    (ok : ∀ N, (∀ v ∈ st, okV N v) → ∀ v ∈ t, okV N v) (hs : jmp pc off L t h k n = some (.inl F')) (kk : GW p l e R s mid args below meth c Q D cA sz0 b Ls xs ad0 n0 m F') : GW p l e R s mid args below meth c Q D cA sz0 b Ls xs ad0 n0 m (pc, L, st, h, k, n) := by
  unfold jmp at hs
  split at hs
  · rename_i hv
    cases hs
    exact s_stk2 (fun ad H locs ls hN w => row ad H locs ls _ (Int.toNat_of_nonneg hv).symm hN w) ok kk
  · cases hs
theorem entO_i {cA : Nat → ClassId} {ad : Nat → Nat} {ln : Nat} {rf : List (Option (Option Nat))} {f : Nat → Int} : entO cA ad (0, ln, rf) f = .inl (cA 0, ln, .inl (fun j => Int32.ofInt (f j))) := rfl
theorem entO_j {cA : Nat → ClassId} {ad : Nat → Nat} {ln : Nat} {rf : List (Option (Option Nat))} {f : Nat → Int} : entO cA ad (1, ln, rf) f = .inl (cA 1, ln, .inr (.inl (fun j => Int64.ofInt (f j)))) := rfl
theorem entO_z {cA : Nat → ClassId} {ad : Nat → Nat} {ln : Nat} {rf : List (Option (Option Nat))} {f : Nat → Int} : entO cA ad (2, ln, rf) f = .inl (cA 2, ln, .inl (fun j => Int32.ofInt (f j))) := rfl
theorem entO_r {cA : Nat → ClassId} {ad : Nat → Nat} {ln : Nat} {rf : List (Option (Option Nat))} {f : Nat → Int} : entO cA ad (3, ln, rf) f = .inl (cA 3, rf.length, .inr (.inr (.inr (.inr (refsO ad rf))))) := rfl
theorem entO_p {cA : Nat → ClassId} {ad : Nat → Nat} {ln : Nat} {rf : List (Option (Option Nat))} {f : Nat → Int} : entO cA ad (4, ln, rf) f = .inl (cA 4, rf.length, .inr (.inr (.inr (.inr (refsO ad rf))))) := rfl
theorem entO_o {cA : Nat → ClassId} {ad : Nat → Nat} {ci ln : Nat} {rf : List (Option (Option Nat))} {f : Nat → Int} : entO cA ad (ci + 10, ln, rf) f = .inr (ci, fieldsO ad rf f) := by
  unfold entO
  dsimp only
  rw [if_neg (by omega), if_neg (by omega), if_neg (by omega), if_neg (by omega), if_neg (by omega), Nat.add_sub_cancel]
theorem fieldsO_at {ad : Nat → Nat} {rf : List (Option (Option Nat))} {f : Nat → Int} {j : Nat} {r : Option (Option Nat)} (h : rf[j]? = some r) : (fieldsO ad rf f)[j]? = some (fvO ad r (f j)) := by
  unfold fieldsO
  rw [List.getElem?_map, List.getElem?_range (lt_of_at h)]
  show some (fvO ad (rf.getD j none) (f j)) = _
  rw [getD_of h]
theorem fieldsO_len {ad : Nat → Nat} {rf : List (Option (Option Nat))} {f : Nat → Int} : (fieldsO ad rf f).length = rf.length := by simp [fieldsO]
theorem fieldsO_gt {ad : Nat → Nat} {rf : List (Option (Option Nat))} {f : Nat → Int} {j : Nat} : (fieldsO ad rf f)[j]? = if j < rf.length then some (fvO ad (rf.getD j none) (f j)) else none := by
  unfold fieldsO
  rw [List.getElem?_map]
  by_cases h : j < rf.length
  · rw [if_pos h, List.getElem?_range h]; rfl
  · rw [if_neg h, List.getElem?_eq_none (by simp; omega)]; rfl
theorem fieldsO_put {ad : Nat → Nat} {rf : List (Option (Option Nat))} {σ : Nat → Nat → Int} {a f : Nat} {v : Int} (h : rf[f]? = some none) : fieldsO ad rf (upS σ a f v a) = (fieldsO ad rf (σ a)).set f (.int (Int32.ofInt v)) := by
  apply List.ext_getElem?
  intro j
  rw [List.getElem?_set, fieldsO_len, fieldsO_gt, fieldsO_gt]
  by_cases hj : f = j
  · subst hj
    rw [if_pos (lt_of_at h), if_pos rfl, if_pos (lt_of_at h), getD_of h]
    show some (Value.int (Int32.ofInt (upS σ a f v a f))) = _
    unfold upS
    rw [if_pos ⟨rfl, rfl⟩]
  · rw [if_neg hj]
    have e : upS σ a f v a j = σ a j := by unfold upS; rw [if_neg (fun z => hj z.2.symm)]
    rw [e]
theorem fieldsO_set {ad : Nat → Nat} {rf : List (Option (Option Nat))} {g : Nat → Int} {f r : Nat} (h : f < rf.length) : fieldsO ad (rf.set f (some (some r))) g = (fieldsO ad rf g).set f (.ref (ad r)) := by
  apply List.ext_getElem?
  intro j
  rw [List.getElem?_set, fieldsO_len, fieldsO_gt, fieldsO_gt, List.length_set]
  by_cases hj : f = j
  · subst hj
    rw [if_pos h, if_pos rfl, if_pos h, getD_of (by rw [List.getElem?_set, if_pos rfl, if_pos h])]
    rfl
  · rw [if_neg hj, List.getD_eq_getElem?_getD, List.getElem?_set, if_neg hj, ← List.getD_eq_getElem?_getD]
theorem refsO_set {ad : Nat → Nat} {rf : List (Option (Option Nat))} {i r : Nat} (h : i < rf.length) : refsO ad (rf.set i (some (some r))) = va_up (refsO ad rf) i (some (ad r)) := by
  funext j
  unfold refsO va_up
  by_cases hj : j = i
  · subst hj
    rw [if_pos rfl, getD_of (by rw [List.getElem?_set, if_pos rfl, if_pos h])]
    rfl
  · rw [if_neg hj, List.getD_eq_getElem?_getD, List.getElem?_set, if_neg (fun z => hj z.symm), ← List.getD_eq_getElem?_getD]
theorem upS_okH {sh : List SH} {σ : Nat → Nat → Int} {a k : Nat} {v : Int} (h : okH (sh, σ)) (ha : a < sh.length) (hv : inR v = true) : okH (sh, upS σ a k v) := by
  obtain ⟨h1, h2, h3, h4⟩ := h
  refine ⟨fun a' k' => ?_, fun a' g1 g2 k' => ?_, h3, h4⟩
  · show inR (upS σ a k v a' k') = true
    unfold upS
    split
    · exact hv
    · exact h1 a' k'
  · show upS σ a k v a' k' = 0
    have g1 : sh.length ≤ a' := g1
    unfold upS
    rw [if_neg (by omega)]
    exact h2 a' g1 g2 k'
theorem upS_okX {sh : List SH} {σ : Nat → Nat → Int} {a k Ls : Nat} {v : Int} {xs : Nat → Int32} (h : okH (sh, σ)) (ha : a < sh.length) (hX : okX Ls xs σ) : okX Ls xs (upS σ a k v) := by
  have h3 : sh.length ≤ SCR := h.2.2.1
  have e : ∀ q j, SCR ≤ q → upS σ a k v q j = σ q j := fun q j hq => by unfold upS; rw [if_neg (by omega)]
  refine ⟨fun j hj => ?_, ?_⟩
  · rw [e _ _ (Nat.le_refl _)]; exact hX.1 j hj
  · rw [e _ _ (Nat.le_succ _)]; exact hX.2
theorem s_GetF {x : Nat} (C : CX p l R s mid args meth c D cA sz0 b Ls xs m) (hd : decode (zM_b m) pc = .ok (.getfield x, 3)) (hs : sGetF (zfl (zM_o m) x) (pc + 3) L st h k n = some (.inl F')) (kk : GW p l e R s mid args below meth c Q D cA sz0 b Ls xs ad0 n0 m F') : GW p l e R s mid args below meth c Q D cA sz0 b Ls xs ad0 n0 m (pc, L, st, h, k, n) := by
  obtain ⟨hx, hb, hml, hown, hts, hlocks, hin, hfl, hR, hK, hX⟩ := C
  generalize hq : zfl (zM_o m) x = q at hs
  unfold sGetF at hs
  split at hs
  · rename_i ci f fx a t
    obtain ⟨fin, isR⟩ := fx
    split at hs
    · rename_i kd ln rf ha
      split at hs
      · rename_i hkd
        subst hkd
        obtain ⟨Cn, T, N, hc, hfN, hlk, -, -, -, -⟩ := fl_ok hq
        have row : ∀ (v : AV) (r : Option (Option Nat)), rf[f]? = some r → (∀ ad, fvO ad r (h.2 a f) = cv ad v) → (okH h → okV h.1.length v) → F' = (pc + 3, L, v :: t, h, k, n) → GW p l e R s mid args below meth c Q D cA sz0 b Ls xs ad0 n0 m (pc, L, .inr (.inr (some a)) :: t, h, k, n) := by
          intro v r hf hv hokv hF
          subst hF
          intro ad H locs ls hr hk hn
          dsimp only at hr hk hn ⊢
          obtain ⟨rl, rL, rv, rs, rh, rx, rP, rD, rS, rb⟩ := hr
          have he := wsO_get (cA := cA) (ad := ad) (σ := h.2) ha
          rw [entO_o] at he
          refine va_get (D := D) (cl := vwCl) (tys := tyL cA) (own := zownS (zM_o m)) (ref := (T f).1) (C := Cn) (T := T) (N := N) (ci := ci) (Ts := lwG) (v := cv ad v) hx hb (fun w hw => hts w (lwG_of hw).1 (lwG_of hw).2) (cls_in hc).1 hown hK.1 rP a he hc f hfN (hts _ (lwG_of hlk).1 (lwG_of hlk).2) (fun _ q => q) (by rw [fieldsO_at hf, hv]) hd (kk ad H locs ls ⟨rl, rL, rv, ?_, rh, rx, rP, rD, rS, rb⟩ hk hn)
          intro w hw
          rcases List.mem_cons.mp hw with rfl | hw
          · exact hokv rh
          · exact rs w (List.mem_cons_of_mem _ hw)
        split at hs
        · rename_i hf
          cases hs
          exact row (.inl (h.2 a f)) none hf (fun ad => rfl) (fun rh => rh.1 a f) rfl
        · rename_i r hf
          cases hs
          exact row (.inr (.inr r)) (some r) hf (fun ad => rfl) (fun rh => rh.2.2.2 _ (List.mem_of_getElem? ha) _ (List.mem_of_getElem? hf) _ rfl) rfl
        · cases hs
      · cases hs
    · cases hs
  · cases hs
theorem s_PutF {x : Nat} (C : CX p l R s mid args meth c D cA sz0 b Ls xs m) (hd : decode (zM_b m) pc = .ok (.putfield x, 3)) (hs : zsPutF m (zfl (zM_o m) x) (pc + 3) L st h k n = some (.inl F')) (kk : GW p l e R s mid args below meth c Q D cA sz0 b Ls xs ad0 n0 m F') : GW p l e R s mid args below meth c Q D cA sz0 b Ls xs ad0 n0 m (pc, L, st, h, k, n) := by
  obtain ⟨hx, hb, hml, hown, hts, hlocks, hin, hfl, hR, hK, hX⟩ := C
  generalize hq : zfl (zM_o m) x = q at hs
  obtain ⟨sh, σ⟩ := h
  unfold zsPutF at hs
  split at hs
  · rename_i ci f fin isR v a t
    split at hs
    · rename_i kd ln rf ha
      split at hs
      · rename_i hg
        obtain ⟨hkd, hfin, hisR, hf⟩ := hg
        subst hkd
        cases hs
        obtain ⟨Cn, T, N, hc, hfN, hlk, hfn, -, hty, -⟩ := fl_ok hq
        obtain ⟨ty0, ht1, ht2, -⟩ := cls_ty hc
        intro ad H locs ls hr hk hn
        dsimp only at hr hk hn ⊢
        obtain ⟨rl, rL, rv, rs, rh, rx, rP, rD, rS, rb⟩ := hr
        have he := wsO_get (cA := cA) (ad := ad) (σ := σ) ha
        rw [entO_o] at he
        have hv : inR v = true := rs _ List.mem_cons_self
        have e : wsO cA ad sh (upS σ a f v) = (wsO cA ad sh σ).set a (ad a, .inr (ci, (fieldsO ad rf (σ a)).set f (.int (Int32.ofInt v)))) := by rw [wsO_put ha, entO_o, fieldsO_put hf]
        refine va_put (D := D) (cl := vwCl) (tys := tyL cA) (own := zownS (zM_o m)) (ref := (T f).1) (C := Cn) (T := T) (N := N) (ci := ci) (Ts := lwG) (ty := .int) (v := .int (Int32.ofInt v)) hx hb (fun w hw => hts w (lwG_of hw).1 (lwG_of hw).2) (cls_in hc).1 ty0 ht1 ht2 hown hK.1 rP rD rS a he hc f hfN (hts _ (lwG_of hlk).1 (lwG_of hlk).2) (fun _ q => q) (by rw [hfn]; exact hfin) (hty hisR) rfl rfl (by rw [fieldsO_len]; exact lt_of_at hf) hd (fun H1 locs1 w1 w2 w3 => ?_)
        rw [← e] at w1 w2
        exact kk ad H1 locs1 ls ⟨rl, rL, rv, fun w hw => rs w (List.mem_cons_of_mem _ (List.mem_cons_of_mem _ hw)), upS_okH rh (lt_of_at ha) hv, upS_okX rh (lt_of_at ha) rx, w1, w2, w3, rb⟩ hk hn
      · cases hs
    · cases hs
  · rename_i ci f fin isR r a t
    split at hs
    · rename_i kd ln rf ha
      split at hs
      · rename_i hg
        obtain ⟨hkd, ⟨hfin, hmk, hisR, hoc⟩, hf, hrl⟩ := hg
        subst hkd
        cases hs
        obtain ⟨Cn, T, N, hc, hfN, hlk, hfn, hdc, -, hty⟩ := fl_ok hq
        obtain ⟨ty0, ht1, ht2, -⟩ := cls_ty hc
        obtain ⟨ty, hty1, hty2⟩ := hty hisR
        have hfl' : f < rf.length := by
          cases hz : rf[f]? with
          | none => rw [hz] at hf; cases hf
          | some z => exact lt_of_at hz
        intro ad H locs ls hr hk hn
        dsimp only at hr hk hn ⊢
        obtain ⟨rl, rL, rv, rs, rh, rx, rP, rD, rS, rb⟩ := hr
        have he := wsO_get (cA := cA) (ad := ad) (σ := σ) ha
        rw [entO_o] at he
        have e : wsO cA ad (sh.set a (ci + 10, ln, rf.set f (some (some r)))) σ = (wsO cA ad sh σ).set a (ad a, .inr (ci, (fieldsO ad rf (σ a)).set f (.ref (ad r)))) := by rw [wsO_setS (lt_of_at ha), entO_o, fieldsO_set hfl']
        have hn1 : narrow ty (.ref (ad r)) = .ref (ad r) := by rcases hty2 with ⟨n', rfl⟩ | ⟨t', rfl⟩ <;> rfl
        have hn2 : fits ty (.ref (ad r)) = true := by rcases hty2 with ⟨n', rfl⟩ | ⟨t', rfl⟩ <;> rfl
        refine va_putF (D := D) (cl := vwCl) (tys := tyL cA) (own := zownS (zM_o m)) (ref := (T f).1) (C := Cn) (T := T) (N := N) (ci := ci) (Ts := lwG) (ty := ty) (v := .ref (ad r)) hx hb (fun w hw => hts w (lwG_of hw).1 (lwG_of hw).2) (cls_in hc).1 ty0 ht1 ht2 hown hK.1 rP rD rS a he hc f hfN (hts _ (lwG_of hlk).1 (lwG_of hlk).2) (fun _ q => q) (by rw [hfn]; exact hfin) (hin hmk) (hdc hfin hoc) hty1 hn1 hn2 (by rw [fieldsO_len]; exact hfl') hd (fun H1 locs1 w1 w2 w3 => ?_)
        rw [← e] at w1 w2
        have hlen : (sh.set a (ci + 10, ln, rf.set f (some (some r)))).length = sh.length := List.length_set
        refine kk ad H1 locs1 ls ⟨rl, rL, ?_, ?_, ?_, rx, w1, w2, w3, ⟨rb.1, by show n0 ≤ List.length _; rw [hlen]; exact rb.2.1, rb.2.2⟩⟩ hk hn
        · intro w hw; show okV (List.length _) w ∧ _; rw [hlen]; exact rv w hw
        · intro w hw; show okV (List.length _) w; rw [hlen]; exact rs w (List.mem_cons_of_mem _ (List.mem_cons_of_mem _ hw))
        · obtain ⟨h1, h2, h3, h4⟩ := rh
          refine ⟨h1, fun a' g1 => h2 a' (by rw [← hlen]; exact g1), by show List.length _ ≤ _; rw [hlen]; exact h3, fun s' hs' r' hr' q' hq' => ?_⟩
          show okR (List.length _) q'
          rw [hlen]
          rcases List.mem_or_eq_of_mem_set hs' with hs' | rfl
          · exact h4 s' hs' r' hr' q' hq'
          · rcases List.mem_or_eq_of_mem_set hr' with hr' | rfl
            · exact h4 _ (List.mem_of_getElem? ha) r' hr' q' hq'
            · cases hq'
              intro z hz
              cases hz
              exact Or.inl hrl
      · cases hs
    · cases hs
  · cases hs
end SND
