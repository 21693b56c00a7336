section SND5
variable {p : Program} {l : Launch} {e : Env} {R : Room} {s : State} {mid : MethodId} {args : Array Value} {below : List Frame} {meth : Method} {c : Code} {Q : State → Prop} {D : va_G} {cA : Nat → ClassId} {sz0 b Ls : Nat} {xs : Nat → Int32} {ad0 : Nat → Nat} {n0 m : Nat}
variable {pc k n : Nat} {L : List (Option AV)} {st : List AV} {h : HP} {F' : Fr}
theorem cv_ext {ad ad' : Nat → Nat} {N : Nat} {v : AV} (he : ∀ a, a < N → ad' a = ad a) (hS : ad' SCR = ad SCR) (h : okV N v) : cv ad' v = cv ad v := by
  unfold okV at h
  unfold cv
  split <;> first | rfl | skip
  rename_i q
  cases q with
  | none => rfl
  | some a =>
    show Value.ref (ad' a) = Value.ref (ad a)
    rcases h a rfl with z | z
    · rw [he a z]
    · rw [z, hS]
theorem cvs_ext {ad ad' : Nat → Nat} {N : Nat} {l : List AV} (he : ∀ a, a < N → ad' a = ad a) (hS : ad' SCR = ad SCR) (h : ∀ v ∈ l, okV N v) : l.map (cv ad') = l.map (cv ad) := List.map_congr_left fun v hv => cv_ext he hS (h v hv)
/-- the world behind a method -/
def WD (D : va_G) (cA : Nat → ClassId) (sz0 b Ls : Nat) (xs : Nat → Int32) (ad0 : Nat → Nat) (n0 : Nat) (ad : Nat → Nat) (h : HP) (H : Heap) : Prop :=
  okH h ∧ okX Ls xs h.2 ∧ va_P D vwCl (wsO cA ad h.1 h.2) H ∧ va_D (aS sz0) (wsO cA ad h.1 h.2) ∧ ad SCR = b ∧ n0 ≤ h.1.length ∧ ∀ a, a < n0 → ad a = ad0 a
def retI (i : Instr) (ret : Option FieldType) (v : Option AV) : Prop :=
  (i = .ireturn ∧ ∃ x, v = some (.inl x) ∧ (ret = some .int ∨ (ret = some .boolean ∧ (x = 0 ∨ x = 1)))) ∨ (i = .areturn ∧ isRT ret = true ∧ ∃ r, v = some (.inr (.inr r))) ∨ (i = .return_ ∧ ret = none ∧ v = none)
def FINr (p : Program) (l : Launch) (e : Env) (R : Room) (s : State) (mid : MethodId) (args : Array Value) (below : List Frame) (meth : Method) (c : Code) (Q : State → Prop) (D : va_G) (cA : Nat → ClassId) (sz0 b Ls : Nat) (xs : Nat → Int32) (ad0 : Nat → Nat) (n0 m : Nat) (v : Option AV) (h' : HP) : Prop :=
  ∀ (pc : Nat) (i : Instr) (ad : Nat → Nat) (H : Heap) (locs : List Loc) (ls : Array Slot) (k n : Nat), decode (zM_b m) pc = .ok (i, 1) → retI i (zM_ret m) v → WD D cA sz0 b Ls xs ad0 n0 ad h' H → (∀ w, v = some w → okV h'.1.length w) → va_S (aS sz0) s.heap H locs → k ≤ zM_mc m → n ≤ zM_ms m → ls.size = zM_L m → W p l e R s mid args below meth c H locs k n Q (F0 mid pc ls (v.toList.map (cv ad)))
def FINx (p : Program) (l : Launch) (e : Env) (R : Room) (s : State) (mid : MethodId) (args : Array Value) (below : List Frame) (meth : Method) (c : Code) (Q : State → Prop) (D : va_G) (cA : Nat → ClassId) (sz0 b Ls : Nat) (xs : Nat → Int32) (ad0 : Nat → Nat) (n0 m : Nat) (E : Nat) (h' : HP) : Prop :=
  (∀ (pc : Nat) (ad : Nat → Nat) (H : Heap) (locs : List Loc) (ls : Array Slot) (rest : List Value) (k n : Nat) (ce : Cell) (q9 : Addr), zM_hh m = [] → WD D cA sz0 b Ls xs ad0 n0 ad h' H → va_S (aS sz0) s.heap H locs → k ≤ zM_mc m → n ≤ zM_ms m → H[q9]? = some ce → ce.vm = .none → s.vm.findClass (exS E) = some ce.cls → vx_W p l e R s mid args below meth c H locs k n Q (F0 mid pc ls rest) q9) ∧
  ∀ (pc : Nat) (ad : Nat → Nat) (H : Heap) (locs : List Loc) (ls : Array Slot) (st : List AV) (k n : Nat), zxt m pc = some E → 6 ≤ zM_f m → (st.map avc).sum + 82 ≤ zM_lo m → k + 1 ≤ zM_mc m → n + 6 ≤ zM_ms m → zM_hh m = [] → WD D cA sz0 b Ls xs ad0 n0 ad h' H → va_S (aS sz0) s.heap H locs → ls.size = zM_L m → W p l e R s mid args below meth c H locs k n Q (F0 mid pc ls (st.map (cv ad)))
def FIN (p : Program) (l : Launch) (e : Env) (R : Room) (s : State) (mid : MethodId) (args : Array Value) (below : List Frame) (meth : Method) (c : Code) (Q : State → Prop) (D : va_G) (cA : Nat → ClassId) (sz0 b Ls : Nat) (xs : Nat → Int32) (ad0 : Nat → Nat) (n0 m : Nat) (o : Out) : Prop := match o.1 with
  | .inl v => FINr p l e R s mid args below meth c Q D cA sz0 b Ls xs ad0 n0 m v o.2
  | .inr E => FINx p l e R s mid args below meth c Q D cA sz0 b Ls xs ad0 n0 m E o.2
def QcO (D : va_G) (cA : Nat → ClassId) (sz0 b Ls : Nat) (xs : Nat → Int32) (ad0 : Nat → Nat) (n0 : Nat) (o : Out) : Array Value → State → Outcome → State → Prop := fun _ st oc t =>
  ∃ (v : Option AV) (h' : HP) (ad : Nat → Nat), o = (.inl v, h') ∧ oc = .returned (v.map (cv ad)) ∧ (∀ w, v = some w → okV h'.1.length w) ∧ WD D cA sz0 b Ls xs ad0 n0 ad h' t.heap ∧ va_F (aS sz0) st t
def XCO (D : va_G) (cA : Nat → ClassId) (sz0 b Ls : Nat) (xs : Nat → Int32) (ad0 : Nat → Nat) (n0 : Nat) (o : Out) : String → State → State → Prop := fun E st t =>
  ∃ (Ei : Nat) (h' : HP) (ad : Nat → Nat), o = (.inr Ei, h') ∧ E = exS Ei ∧ WD D cA sz0 b Ls xs ad0 n0 ad h' t.heap ∧ va_F (aS sz0) st t
theorem WD.at {ad : Nat → Nat} {h' : HP} {H : Heap} {t : State} (w : WD D cA sz0 b Ls xs ad0 n0 ad h' H) (ht : t.heap = H) : WD D cA sz0 b Ls xs ad0 n0 ad h' t.heap := by rw [ht]; exact w
theorem fit_ex {E : Nat} (h : E < 3) : Bundle.fit (exS E) = true := by
  match E, h with
  | 0, _ => decide +kernel
  | 1, _ => decide +kernel
  | 2, _ => decide +kernel
  | q + 3, h => exact absurd h (by omega)
theorem fit_exN : ∀ n ∈ exN, Bundle.fit n = true := by decide +kernel
/-- a callee's own end -/
theorem fin_of {o : Out} (hm0 : ¬ m = 0) (hD : DecOK) (C : CX p l R s mid args meth c D cA sz0 b Ls xs m) : FIN p l e R s mid args below meth c (vx_MQ below (QcO D cA sz0 b Ls xs ad0 n0 o) (XCO D cA sz0 b Ls xs ad0 n0 o) args s (zM_mc m) (zM_ms m) (aS sz0)) D cA sz0 b Ls xs ad0 n0 m o := by
  obtain ⟨hx, hb, hml, hown, hts, ⟨hlocks, htab, hret⟩, hin, hfl, hR, hK, hX⟩ := C
  have htab := htab.resolve_left hm0
  obtain ⟨oo, h'⟩ := o
  cases oo with
  | inl v =>
    intro pc i ad H locs ls k n hd hri hw hv hS hk hn hsz
    refine W.widen hk hn (vx_ret ?_)
    rcases hri with ⟨rfl, x, rfl, hr⟩ | ⟨rfl, hr, r, rfl⟩ | ⟨rfl, hr, rfl⟩
    · have fin : ∀ t : State, t.heap = H → s.WarmedH t.vm → QcO D cA sz0 b Ls xs ad0 n0 (.inl (some (.inl x)), h') args s (.returned (some (.int (Int32.ofInt x)))) t := fun t ht hW => ⟨_, h', ad, rfl, rfl, hv, hw.at ht, hS.F ht⟩
      rcases hr with hr | ⟨hr, hx01⟩
      · exact W.iret hx hb (by rw [hret, hr]) fin hS.2.2 hd hlocks
      · refine W.zret (ty := .boolean) hx hb (by rw [hret, hr]) ?_ fin hS.2.2 hd hlocks
        rcases hx01 with rfl | rfl <;> rfl
    · have hrt : ∃ rt : FieldType, zM_ret m = some rt ∧ ((∃ n, rt = .object n) ∨ ∃ t, rt = .array t) := by
        unfold isRT at hr
        split at hr
        · exact ⟨_, by assumption, Or.inl ⟨_, rfl⟩⟩
        · exact ⟨_, by assumption, Or.inr ⟨_, rfl⟩⟩
        · cases hr
      obtain ⟨rt, hr1, hr2⟩ := hrt
      exact W.aret (v := rvO ad r) hx hb (by rw [hret, hr1]) hr2 (by cases r with | none => exact Or.inl rfl | some a => exact Or.inr ⟨_, rfl⟩) (fun t ht hW => ⟨_, h', ad, rfl, rfl, hv, hw.at ht, hS.F ht⟩) hS.2.2 hd hlocks
    · exact W.vret hx hb (by rw [hret, hr]) (fun t ht hW => ⟨_, h', ad, rfl, rfl, hv, hw.at ht, hS.F ht⟩) hS.2.2 hd hlocks
  | inr E =>
    refine ⟨fun pc ad H locs ls rest k n ce q9 hh hw hS hk hn hc1 hc2 hc3 => ?_, fun pc ad H locs ls st k n hxt g1 g2 g3 g4 hh hw hS hsz => ?_⟩
    · refine vx_out (by rw [htab]; unfold M_h4; rw [hh]; intro x hx9; cases hx9) hlocks hc1 hc2 hc3 (fun t ht hal => ⟨E, h', ad, rfl, rfl, hw.at ht, hS.F ht⟩) hS.2.2 hk hn
    · obtain ⟨hE, ik, is, ic, tx, wd, d0, d3, d4, d5, hst, hcl, hci, ha, hb9, hc9⟩ := xt_ok hxt
      have hw9 : ∀ {w : Jvm.Cond}, w ∈ lwG → w.before args s = true := fun hw => hts _ (lwG_of hw).1 (lwG_of hw).2
      obtain ⟨sa, hstr⟩ := hK.2.2.2.2.2.2.1 _ hst
      have hout : ∀ q : Nat, ∀ x ∈ c.exceptionTable.toList, covers x q = false := by rw [htab]; unfold M_h4; rw [hh]; intro q x hx9; cases hx9
      have hat : ∀ w ∈ vx_atS (zownS (zM_o m)) ic (exS E) exN, w.before args s = true := by
        refine vx_hat (B := exB E) (fun w hw => hts w (ha w hw) (List.mem_filter.mp hw).2) hb9 (fun w hw => ?_)
        rcases List.mem_cons.mp hw with rfl | hw
        · exact va_Nw.use rfl (hK.2.2.2.1 E hE)
        · have q := hK.2.2.2.2.1 w hw
          simp only [exD, List.mem_cons, List.not_mem_nil, or_false] at hw
          rcases hw with rfl | rfl | rfl <;> exact va_Nw.use rfl q
      have hgood : ∀ w ∈ Cond.classLink (zownS (zM_o m)) ik (exS E) :: Cond.initialized (exS E) :: vx_atS (zownS (zM_o m)) ic (exS E) exN, vx_ot w = true := by
        intro w hw
        rcases List.mem_cons.mp hw with rfl | hw
        · rfl
        · rcases List.mem_cons.mp hw with rfl | hw
          · rfl
          · exact hc9 w hw
      have hxx : ∀ t : State, s.vm.Alike t.vm → H.size ≤ t.heap.size → (∀ q : Nat, q < H.size → t.heap[q]? = H[q]?) → XCO D cA sz0 b Ls xs ad0 n0 (.inr E, h') (exS E) s t := by
        intro t hal hz hkp
        obtain ⟨w1, w2, w3, w4⟩ := hw
        refine ⟨E, h', ad, rfl, rfl, ⟨w1, w2, fun k q hq => (w3 k q hq).kept (hkp _ (w3 k q hq).lt), w4⟩, Nat.le_trans hS.1 hz, fun q h1 h2 => ?_⟩
        rw [hkp q (Nat.lt_of_lt_of_le h1 hS.1)]
        exact hS.2.1 q h1 h2
      cases wd with
      | false =>
        obtain ⟨d4, d6, d9⟩ := d4 rfl
        exact vx_throwS (own := zownS (zM_o m)) (cls := exS E) (text := tx) (names := exN) (is := is) hx hb hfl hown (fit_ex hE) fit_exN (hw9 hcl) (hw9 hci) hstr hat hgood hX.1 hX.2.1 hS (by rw [hml]; exact hsz) (hD _ _ _ d0) (hD _ _ _ d3) (hD _ _ _ d4) (hD _ _ _ d6) (hD _ _ _ d9) (hout _) (by rw [hR]; exact g1) (by rw [hR, cats]; exact g2) (by rw [hR]; exact g3) (by rw [hR]; exact g4) hlocks hxx hS.2.2 g3 g4
      | true =>
        obtain ⟨d4, d6, d9⟩ := d5 rfl
        exact vx_throwSW (own := zownS (zM_o m)) (cls := exS E) (text := tx) (names := exN) (is := is) hx hb hfl hown (fit_ex hE) fit_exN (hw9 hcl) (hw9 hci) hstr hat hgood hX.1 hX.2.1 hS (by rw [hml]; exact hsz) (hD _ _ _ d0) (hD _ _ _ d3) (hD _ _ _ d4) (hD _ _ _ d6) (hD _ _ _ d9) (hout _) (by rw [hR]; exact g1) (by rw [hR, cats]; exact g2) (by rw [hR]; exact g3) (by rw [hR]; exact g4) hlocks hxx hS.2.2 g3 g4
end SND5
