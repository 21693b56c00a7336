/-! Runs as a relation over the heap that the constructors leave; a rule an instruction. -/
noncomputable section
abbrev Sg : Type := Nat → Nat → Int
abbrev Rs : Type := (Option AV ⊕ Nat) × Sg
def Ret (m : Nat) (F : Fr) (o : Out) : Prop := ∃ N, run N m F = some o
theorem run_eq (n m : Nat) (F : Fr) : run (n + 1) m F = (match step m F with
      | none => none
      | some (.inl F') => run n m F'
      | some (.inr (.inr o)) => some o
      | some (.inr (.inl (j, as, F'))) => match run n j (entryF j as F'.2.2.2.1) with
          | none => none
          | some (.inl v, h) => run n m (pushO v F' h)
          | some (.inr E, h) => thrOf m F.1 E h) := rfl
theorem run_succ : ∀ (N m : Nat) (F : Fr) (o : Out), run N m F = some o → run (N + 1) m F = some o := by
  intro N
  induction N with
  | zero => intro m F o h; cases h
  | succ N ih =>
    intro m F o h
    rw [run_eq] at h ⊢
    cases hs : step m F with
    | none => rw [hs] at h; cases h
    | some r =>
      rw [hs] at h
      rcases r with F' | ⟨j, as, F'⟩ | q
      · exact ih _ _ _ h
      · dsimp only at h ⊢
        cases hc : run N j (entryF j as F'.2.2.2.1) with
        | none => rw [hc] at h; cases h
        | some q =>
          rw [hc] at h
          rw [ih _ _ _ hc]
          obtain ⟨w, h2⟩ := q
          rcases w with v | E
          · exact ih _ _ _ h
          · exact h
      · exact h
theorem run_le {N N' m : Nat} {F : Fr} {o : Out} (hN : N ≤ N') (h : run N m F = some o) : run N' m F = some o := by
  induction hN with
  | refl => exact h
  | step _ ih => exact run_succ _ _ _ _ ih
theorem Ret_det {m : Nat} {F : Fr} {o o' : Out} (h : Ret m F o) (h' : Ret m F o') : o = o' := by
  obtain ⟨N, h⟩ := h
  obtain ⟨N', h'⟩ := h'
  have a := run_le (Nat.le_max_left N N') h
  have b := run_le (Nat.le_max_right N N') h'
  rw [a] at b
  exact Option.some.inj b
theorem Ret_step {m : Nat} {F F' : Fr} {o : Out} (hs : step m F = some (.inl F')) (H : Ret m F' o) : Ret m F o := by
  obtain ⟨N, h⟩ := H
  exact ⟨N + 1, by rw [run_eq, hs]; exact h⟩
theorem Ret_out {m : Nat} {F : Fr} {o : Out} (hs : step m F = some (.inr (.inr o))) : Ret m F o := ⟨1, by rw [run_eq, hs]⟩
theorem Ret_call {m j : Nat} {as : List AV} {F F' : Fr} {v : Option AV} {h : HP} {o : Out} (hs : step m F = some (.inr (.inl (j, as, F')))) (hc : Ret j (entryF j as F'.2.2.2.1) (.inl v, h)) (H : Ret m (pushO v F' h) o) : Ret m F o := by
  obtain ⟨N1, h1⟩ := hc
  obtain ⟨N2, h2⟩ := H
  refine ⟨max N1 N2 + 1, ?_⟩
  rw [run_eq, hs]
  dsimp only
  rw [run_le (Nat.le_max_left N1 N2) h1]
  exact run_le (Nat.le_max_right N1 N2) h2
theorem Ret_callX {m j E : Nat} {as : List AV} {F F' : Fr} {h : HP} {o : Out} (hs : step m F = some (.inr (.inl (j, as, F')))) (hc : Ret j (entryF j as F'.2.2.2.1) (.inr E, h)) (H : thrOf m F.1 E h = some o) : Ret m F o := by
  obtain ⟨N1, h1⟩ := hc
  refine ⟨N1 + 1, ?_⟩
  rw [run_eq, hs]
  dsimp only
  rw [h1]
  exact H
def Gd (m pc : Nat) (L : List (Option AV)) (st : List AV) (σ : Sg) (k n : Nat) (o : Rs) : Prop := Ret m (pc, L, st, (SH0, σ), k, n) (o.1, (SH0, o.2))
def Dd (j : Nat) (as : List AV) (σ : Sg) (o : Rs) : Prop := Gd j 0 (as.map some ++ List.replicate (M_L j - as.length) none) [] σ 0 0 o
theorem Gd_det {m pc k n : Nat} {L : List (Option AV)} {st : List AV} {σ : Sg} {o o' : Rs} (h : Gd m pc L st σ k n o) (h' : Gd m pc L st σ k n o') : o = o' := by
  have e := Ret_det h h'
  obtain ⟨a, b⟩ := o
  obtain ⟨a', b'⟩ := o'
  simp only [Prod.mk.injEq] at e
  rw [e.1, e.2.2]
theorem Dd_iff {j : Nat} {as : List AV} {σ : Sg} {o : Rs} (h : Dd j as σ o) (o' : Rs) : Dd j as σ o' ↔ o' = o := ⟨fun h' => Gd_det h' h, fun e => e ▸ h⟩
theorem Dd_of {j l : Nat} {as : List AV} {σ : Sg} {o : Rs} (hL : M_L j = l) (H : Gd j 0 (as.map some ++ List.replicate (l - as.length) none) [] σ 0 0 o) : Dd j as σ o := by
  unfold Dd
  rw [hL]
  exact H
theorem Gd_of_run {m pc k n N : Nat} {L : List (Option AV)} {st : List AV} {σ : Sg} {o : Rs} (h : run N m (pc, L, st, (SH0, σ), k, n) = some (o.1, (SH0, o.2))) : Gd m pc L st σ k n o := ⟨N, h⟩
/-- what is asked of the heap's shapes -/
def qI (a ci f : Nat) : Bool := match SH0[a]? with
  | some (k, _, rf) => decide (k = ci + 10) && decide (rf[f]? = some none)
  | none => false
def qR (a ci f : Nat) (r : Option Nat) : Bool := match SH0[a]? with
  | some (k, _, rf) => decide (k = ci + 10) && decide (rf[f]? = some (some r))
  | none => false
def qA (a kd len : Nat) : Bool := match SH0[a]? with
  | some (k, l, _) => decide (k = kd) && decide (l = len)
  | none => false
def qE (a i r : Nat) : Bool := match SH0[a]? with
  | some (k, _, rf) => (decide (k = 3) || decide (k = 4)) && decide (rf[i]? = some (some (some r)))
  | none => false
def qN (a len : Nat) : Bool := match SH0[a]? with
  | some (k, _, rf) => (decide (k = 3) || decide (k = 4)) && decide (rf.length = len)
  | none => false
def qC (a k9 : Nat) : Bool := match SH0[a]? with
  | some (k, _, _) => decide (k = k9)
  | none => false
def cap (a : Nat) : Nat := match SH0[a + 1]? with
  | some s => s.2.1
  | none => 0
def isRow (a : Nat) : Bool := decide (SH0[a]? = some (18, 0, [some (some (a + 1)), none])) && decide (SH0[a + 1]? = some (0, cap a, []))
def isPatch (p : Nat) : Bool := decide (SH0[p]? = some (15, 0, [some (some (p + 1)), some (some (p + 3)), some (some (p + 5)), some (some (p + 7)), some (some (p + 9)), some (some (p + 11))])) && (isRow (p + 1) && (isRow (p + 3) && (isRow (p + 5) && (isRow (p + 7) && (isRow (p + 9) && isRow (p + 11))))))
theorem SH0_len : SH0.length = 727 := by decide +kernel
theorem SH0_lt {a : Nat} {s : SH} (h : SH0[a]? = some s) : ¬ a = SCR := by
  have := (List.getElem?_eq_some_iff.mp h).1
  rw [SH0_len] at this
  intro e
  rw [e] at this
  exact absurd this (by decide)
theorem isRow_1 {a : Nat} (h : isRow a = true) : SH0[a]? = some (18, 0, [some (some (a + 1)), none]) := by
  unfold isRow at h
  rw [Bool.and_eq_true] at h
  exact of_decide_eq_true h.1
theorem isRow_2 {a : Nat} (h : isRow a = true) : SH0[a + 1]? = some (0, cap a, []) := by
  unfold isRow at h
  rw [Bool.and_eq_true] at h
  exact of_decide_eq_true h.2
theorem row_I {a : Nat} (h : isRow a = true) : qI a 8 1 = true := by unfold qI; rw [isRow_1 h]; rfl
theorem row_R {a : Nat} (h : isRow a = true) : qR a 8 0 (some (a + 1)) = true := by
  unfold qR
  rw [isRow_1 h]
  dsimp only
  rw [Bool.and_eq_true]
  exact ⟨rfl, decide_eq_true rfl⟩
theorem row_A {a : Nat} (h : isRow a = true) : qA (a + 1) 0 (cap a) = true := by
  unfold qA
  rw [isRow_2 h]
  dsimp only
  rw [Bool.and_eq_true]
  exact ⟨rfl, decide_eq_true rfl⟩
theorem row_C {a : Nat} (h : isRow a = true) : qC a 18 = true := by unfold qC; rw [isRow_1 h]; rfl
theorem pat_0 {p : Nat} (h : isPatch p = true) : SH0[p]? = some (15, 0, [some (some (p + 1)), some (some (p + 3)), some (some (p + 5)), some (some (p + 7)), some (some (p + 9)), some (some (p + 11))]) := by
  unfold isPatch at h
  rw [Bool.and_eq_true] at h
  exact of_decide_eq_true h.1
theorem pat_r {p : Nat} (h : isPatch p = true) : isRow (p + 1) = true ∧ isRow (p + 3) = true ∧ isRow (p + 5) = true ∧ isRow (p + 7) = true ∧ isRow (p + 9) = true ∧ isRow (p + 11) = true := by
  unfold isPatch at h
  simp only [Bool.and_eq_true] at h
  exact h.2
theorem pat_1 {p : Nat} (h : isPatch p = true) : isRow (p + 1) = true := (pat_r h).1
theorem pat_3 {p : Nat} (h : isPatch p = true) : isRow (p + 3) = true := (pat_r h).2.1
theorem pat_5 {p : Nat} (h : isPatch p = true) : isRow (p + 5) = true := (pat_r h).2.2.1
theorem pat_7 {p : Nat} (h : isPatch p = true) : isRow (p + 7) = true := (pat_r h).2.2.2.1
theorem pat_9 {p : Nat} (h : isPatch p = true) : isRow (p + 9) = true := (pat_r h).2.2.2.2.1
theorem pat_11 {p : Nat} (h : isPatch p = true) : isRow (p + 11) = true := (pat_r h).2.2.2.2.2
theorem pat_C {p : Nat} (h : isPatch p = true) : qC p 15 = true := by unfold qC; rw [pat_0 h]; rfl
theorem pat_R {p f r : Nat} (h : isPatch p = true) (hf : [some (some (p + 1)), some (some (p + 3)), some (some (p + 5)), some (some (p + 7)), some (some (p + 9)), some (some (p + 11))][f]? = some (some (some r))) : qR p 5 f (some r) = true := by
  unfold qR
  rw [pat_0 h]
  dsimp only
  rw [Bool.and_eq_true]
  exact ⟨rfl, decide_eq_true hf⟩
section
variable {m pc pc' len k n : Nat} {L : List (Option AV)} {st t : List AV} {σ : Sg} {o : Rs} {x y : Int} {r : Option Nat} {a : Nat}
theorem step_op {i : Instr} {h : HP} (ho : op m pc = some (i, len)) : step m (pc, L, st, h, k, n) = stepOp m i pc L st h k n := by
  unfold step
  dsimp only
  rw [ho]
theorem g_st {i : Instr} {L' : List (Option AV)} {st' : List AV} {σ' : Sg} {k' n' : Nat} (ho : op m pc = some (i, len)) (hs : stepOp m i pc L st (SH0, σ) k n = some (.inl (pc', L', st', (SH0, σ'), k', n'))) (H : Gd m pc' L' st' σ' k' n' o) : Gd m pc L st σ k n o := Ret_step ((step_op ho).trans hs) H
theorem inR_of (h : -2147483648 ≤ x ∧ x ≤ 2147483647) : inR x = true := by
  unfold inR
  rw [Bool.and_eq_true]
  exact ⟨decide_eq_true h.1, decide_eq_true h.2⟩
theorem g_iload_n {j : Fin 4} (pc' : Nat) (ho : op m pc = some (.iload_n j, len)) (hp : pc + 1 = pc') (hL : L[j.val]? = some (some (.inl x))) (H : Gd m pc' L (.inl x :: st) σ k n o) : Gd m pc L st σ k n o := g_st ho (by subst hp; unfold stepOp; dsimp only; unfold sLdI; rw [hL]) H
theorem g_iload {j : Nat} (pc' : Nat) (ho : op m pc = some (.iload j, len)) (hp : pc + 2 = pc') (hL : L[j]? = some (some (.inl x))) (H : Gd m pc' L (.inl x :: st) σ k n o) : Gd m pc L st σ k n o := g_st ho (by subst hp; unfold stepOp; dsimp only; unfold sLdI; rw [hL]) H
theorem g_aload_n {j : Fin 4} (pc' : Nat) (ho : op m pc = some (.aload_n j, len)) (hp : pc + 1 = pc') (hL : L[j.val]? = some (some (.inr (.inr r)))) (H : Gd m pc' L (.inr (.inr r) :: st) σ k n o) : Gd m pc L st σ k n o := g_st ho (by subst hp; unfold stepOp; dsimp only; unfold sLdA; rw [hL]) H
theorem g_aload {j : Nat} (pc' : Nat) (ho : op m pc = some (.aload j, len)) (hp : pc + 2 = pc') (hL : L[j]? = some (some (.inr (.inr r)))) (H : Gd m pc' L (.inr (.inr r) :: st) σ k n o) : Gd m pc L st σ k n o := g_st ho (by subst hp; unfold stepOp; dsimp only; unfold sLdA; rw [hL]) H
theorem g_istore_n {j : Fin 4} (pc' : Nat) (L' : List (Option AV)) (ho : op m pc = some (.istore_n j, len)) (hp : pc + 1 = pc') (hj : Nat.blt j.val L.length = true) (hL : L.set j.val (some (.inl x)) = L') (H : Gd m pc' L' st σ k n o) : Gd m pc L (.inl x :: st) σ k n o := g_st ho (by subst hp hL; unfold stepOp; dsimp only; unfold sStI; dsimp only; exact if_pos (Nat.le_of_ble_eq_true hj)) H
theorem g_istore {j : Nat} (pc' : Nat) (L' : List (Option AV)) (ho : op m pc = some (.istore j, len)) (hp : pc + 2 = pc') (hj : Nat.blt j L.length = true) (hL : L.set j (some (.inl x)) = L') (H : Gd m pc' L' st σ k n o) : Gd m pc L (.inl x :: st) σ k n o := g_st ho (by subst hp hL; unfold stepOp; dsimp only; unfold sStI; dsimp only; exact if_pos (Nat.le_of_ble_eq_true hj)) H
theorem g_astore_n {j : Fin 4} (pc' : Nat) (L' : List (Option AV)) (ho : op m pc = some (.astore_n j, len)) (hp : pc + 1 = pc') (hj : Nat.blt j.val L.length = true) (hL : L.set j.val (some (.inr (.inr r))) = L') (H : Gd m pc' L' st σ k n o) : Gd m pc L (.inr (.inr r) :: st) σ k n o := g_st ho (by subst hp hL; unfold stepOp; dsimp only; unfold sStA; dsimp only; exact if_pos (Nat.le_of_ble_eq_true hj)) H
theorem g_astore {j : Nat} (pc' : Nat) (L' : List (Option AV)) (ho : op m pc = some (.astore j, len)) (hp : pc + 2 = pc') (hj : Nat.blt j L.length = true) (hL : L.set j (some (.inr (.inr r))) = L') (H : Gd m pc' L' st σ k n o) : Gd m pc L (.inr (.inr r) :: st) σ k n o := g_st ho (by subst hp hL; unfold stepOp; dsimp only; unfold sStA; dsimp only; exact if_pos (Nat.le_of_ble_eq_true hj)) H
theorem sK_ok {pc : Nat} {h : HP} (hr : inR x = true) : sK x pc L st h k n = some (.inl (pc, L, .inl x :: st, h, k, n)) := by unfold sK; rw [if_pos hr]
theorem g_iconst {v : Int} (pc' : Nat) (ho : op m pc = some (.iconst v, len)) (hp : pc + 1 = pc') (hr : inR v = true) (H : Gd m pc' L (.inl v :: st) σ k n o) : Gd m pc L st σ k n o := g_st ho (by subst hp; exact sK_ok hr) H
theorem g_bipush {v : Int} (pc' : Nat) (ho : op m pc = some (.bipush v, len)) (hp : pc + 2 = pc') (hr : (-128 ≤ v ∧ v ≤ 127)) (H : Gd m pc' L (.inl v :: st) σ k n o) : Gd m pc L st σ k n o := g_st ho (by subst hp; show (if _ then _ else _) = _; rw [if_pos hr]; exact sK_ok (inR_of (by omega))) H
theorem g_sipush {v : Int} (pc' : Nat) (ho : op m pc = some (.sipush v, len)) (hp : pc + 3 = pc') (hr : (-32768 ≤ v ∧ v ≤ 32767)) (H : Gd m pc' L (.inl v :: st) σ k n o) : Gd m pc L st σ k n o := g_st ho (by subst hp; show (if _ then _ else _) = _; rw [if_pos hr]; exact sK_ok (inR_of (by omega))) H
theorem g_ldc {v : Int} {q : _} (pc' : Nat) (ho : op m pc = some (.ldc q, len)) (hp : pc + 2 = pc') (hk : ck (M_o m) q = some v) (hr : inR v = true) (H : Gd m pc' L (.inl v :: st) σ k n o) : Gd m pc L st σ k n o := g_st ho (by subst hp; show (match ck (M_o m) _ with | some v => sK v _ L st (SH0, σ) k n | none => none) = _; rw [hk]; exact sK_ok hr) H
theorem g_ldc_w {v : Int} {q : _} (pc' : Nat) (ho : op m pc = some (.ldc_w q, len)) (hp : pc + 3 = pc') (hk : ck (M_o m) q = some v) (hr : inR v = true) (H : Gd m pc' L (.inl v :: st) σ k n o) : Gd m pc L st σ k n o := g_st ho (by subst hp; show (match ck (M_o m) _ with | some v => sK v _ L st (SH0, σ) k n | none => none) = _; rw [hk]; exact sK_ok hr) H
theorem g_aconst_null (pc' : Nat) (ho : op m pc = some (.aconst_null, len)) (hp : pc + 1 = pc') (H : Gd m pc' L (.inr (.inr none) :: st) σ k n o) : Gd m pc L st σ k n o := g_st ho (by subst hp; rfl) H
theorem g_iinc {j : _} {v : Int} (pc' : Nat) (L' : List (Option AV)) (ho : op m pc = some (.iinc j v, len)) (hp : pc + 3 = pc') (hL : L[j]? = some (some (.inl x))) (hr : -2147483648 ≤ x + v ∧ x + v ≤ 2147483647) (hL' : L.set j (some (.inl (x + v))) = L') (H : Gd m pc' L' st σ k n o) : Gd m pc L st σ k n o := g_st ho (by subst hp hL'; unfold stepOp; dsimp only; rw [hL]; dsimp only; rw [if_pos (inR_of hr)]) H
theorem sBin_ok {f : Int → Int → Int} {pc : Nat} {h : HP} (hr : -2147483648 ≤ f x y ∧ f x y ≤ 2147483647) : sBin f pc L (.inl y :: .inl x :: t) h k n = some (.inl (pc, L, .inl (f x y) :: t, h, k, n)) := by unfold sBin; dsimp only; rw [if_pos (inR_of hr)]
theorem g_iadd (pc' : Nat) (ho : op m pc = some (.iadd, len)) (hp : pc + 1 = pc') (hr : -2147483648 ≤ x + y ∧ x + y ≤ 2147483647) (H : Gd m pc' L (.inl (x + y) :: t) σ k n o) : Gd m pc L (.inl y :: .inl x :: t) σ k n o := g_st ho (by subst hp; exact sBin_ok hr) H
theorem g_isub (pc' : Nat) (ho : op m pc = some (.isub, len)) (hp : pc + 1 = pc') (hr : -2147483648 ≤ x - y ∧ x - y ≤ 2147483647) (H : Gd m pc' L (.inl (x - y) :: t) σ k n o) : Gd m pc L (.inl y :: .inl x :: t) σ k n o := g_st ho (by subst hp; exact sBin_ok hr) H
theorem g_imul (pc' : Nat) (ho : op m pc = some (.imul, len)) (hp : pc + 1 = pc') (hr : -2147483648 ≤ x * y ∧ x * y ≤ 2147483647) (H : Gd m pc' L (.inl (x * y) :: t) σ k n o) : Gd m pc L (.inl y :: .inl x :: t) σ k n o := g_st ho (by subst hp; exact sBin_ok hr) H
theorem sDiv_ok {f : Int → Int → Int} {pc : Nat} {h : HP} (hr : 0 < y) : sDiv f pc L (.inl y :: .inl x :: t) h k n = some (.inl (pc, L, .inl (f x y) :: t, h, k, n)) := by unfold sDiv; dsimp only; rw [if_pos hr]
theorem g_idiv (pc' : Nat) (ho : op m pc = some (.idiv, len)) (hp : pc + 1 = pc') (hr : 0 < y) (H : Gd m pc' L (.inl (Int.tdiv x y) :: t) σ k n o) : Gd m pc L (.inl y :: .inl x :: t) σ k n o := g_st ho (by subst hp; exact sDiv_ok hr) H
theorem g_irem (pc' : Nat) (ho : op m pc = some (.irem, len)) (hp : pc + 1 = pc') (hr : 0 < y) (H : Gd m pc' L (.inl (Int.tmod x y) :: t) σ k n o) : Gd m pc L (.inl y :: .inl x :: t) σ k n o := g_st ho (by subst hp; exact sDiv_ok hr) H
def iAnd (x y : Int) : Int := bit32 (fun x y => x &&& y) x y
def iOr (x y : Int) : Int := bit32 (fun x y => x ||| y) x y
def iXor (x y : Int) : Int := bit32 (fun x y => x ^^^ y) x y
def iShl (x y : Int) : Int := bit32 (fun x y => x <<< (y &&& 31)) x y
def iShr (x y : Int) : Int := bit32 (fun x y => x >>> (y &&& 31)) x y
def iUshr (x y : Int) : Int := bit32 (fun x y => (x.toUInt32 >>> (y.toUInt32 &&& Int32.toUInt32 31)).toInt32) x y
theorem g_iand (pc' : Nat) (ho : op m pc = some (.iand, len)) (hp : pc + 1 = pc') (H : Gd m pc' L (.inl (iAnd x y) :: t) σ k n o) : Gd m pc L (.inl y :: .inl x :: t) σ k n o := g_st ho (by subst hp; rfl) H
theorem g_ior (pc' : Nat) (ho : op m pc = some (.ior, len)) (hp : pc + 1 = pc') (H : Gd m pc' L (.inl (iOr x y) :: t) σ k n o) : Gd m pc L (.inl y :: .inl x :: t) σ k n o := g_st ho (by subst hp; rfl) H
theorem g_ixor (pc' : Nat) (ho : op m pc = some (.ixor, len)) (hp : pc + 1 = pc') (H : Gd m pc' L (.inl (iXor x y) :: t) σ k n o) : Gd m pc L (.inl y :: .inl x :: t) σ k n o := g_st ho (by subst hp; rfl) H
theorem g_ishl (pc' : Nat) (ho : op m pc = some (.ishl, len)) (hp : pc + 1 = pc') (H : Gd m pc' L (.inl (iShl x y) :: t) σ k n o) : Gd m pc L (.inl y :: .inl x :: t) σ k n o := g_st ho (by subst hp; rfl) H
theorem g_ishr (pc' : Nat) (ho : op m pc = some (.ishr, len)) (hp : pc + 1 = pc') (H : Gd m pc' L (.inl (iShr x y) :: t) σ k n o) : Gd m pc L (.inl y :: .inl x :: t) σ k n o := g_st ho (by subst hp; rfl) H
theorem g_iushr (pc' : Nat) (ho : op m pc = some (.iushr, len)) (hp : pc + 1 = pc') (H : Gd m pc' L (.inl (iUshr x y) :: t) σ k n o) : Gd m pc L (.inl y :: .inl x :: t) σ k n o := g_st ho (by subst hp; rfl) H
theorem g_ineg (pc' : Nat) (ho : op m pc = some (.ineg, len)) (hp : pc + 1 = pc') (hr : -2147483648 ≤ -x ∧ -x ≤ 2147483647) (H : Gd m pc' L (.inl (-x) :: t) σ k n o) : Gd m pc L (.inl x :: t) σ k n o := g_st ho (by subst hp; show (if inR (-x) = true then _ else _) = _; rw [if_pos (inR_of hr)]) H
theorem g_i2l (pc' : Nat) (ho : op m pc = some (.i2l, len)) (hp : pc + 1 = pc') (H : Gd m pc' L (.inr (.inl x) :: t) σ k n o) : Gd m pc L (.inl x :: t) σ k n o := g_st ho (by subst hp; rfl) H
theorem g_lconst {l : Fin 2} (pc' : Nat) (ho : op m pc = some (.lconst l, len)) (hp : pc + 1 = pc') (H : Gd m pc' L (.inr (.inl ((l.val : Nat) : Int)) :: t) σ k n o) : Gd m pc L t σ k n o := g_st ho (by subst hp; rfl) H
theorem g_lcmp (pc' : Nat) (ho : op m pc = some (.lcmp, len)) (hp : pc + 1 = pc') (H : Gd m pc' L (.inl (if y < x then 1 else if x = y then 0 else -1) :: t) σ k n o) : Gd m pc L (.inr (.inl y) :: .inr (.inl x) :: t) σ k n o := g_st ho (by subst hp; rfl) H
theorem g_dup {v : AV} (pc' : Nat) (ho : op m pc = some (.dup, len)) (hp : pc + 1 = pc') (hv : avc v = 1) (H : Gd m pc' L (v :: v :: t) σ k n o) : Gd m pc L (v :: t) σ k n o := g_st ho (by subst hp; show (if avc v = 1 then _ else _) = _; rw [if_pos hv]) H
theorem g_dup2 {v w : AV} (pc' : Nat) (ho : op m pc = some (.dup2, len)) (hp : pc + 1 = pc') (hv : avc v = 1) (hw : avc w = 1) (H : Gd m pc' L (v :: w :: v :: w :: t) σ k n o) : Gd m pc L (v :: w :: t) σ k n o := g_st ho (by subst hp; show (if avc v = 1 ∧ avc w = 1 then _ else _) = _; rw [if_pos ⟨hv, hw⟩]) H
theorem g_pop {v : AV} (pc' : Nat) (ho : op m pc = some (.pop, len)) (hp : pc + 1 = pc') (hv : avc v = 1) (H : Gd m pc' L t σ k n o) : Gd m pc L (v :: t) σ k n o := g_st ho (by subst hp; show (if avc v = 1 then _ else _) = _; rw [if_pos hv]) H
/-- where a jump goes -/
def jq (pc pc' : Nat) (off : Int) : Bool := decide (0 ≤ (pc : Int) + off) && decide (((pc : Int) + off).toNat = pc')
theorem jq_of {off : Int} (h : jq pc pc' off = true) : 0 ≤ (pc : Int) + off ∧ ((pc : Int) + off).toNat = pc' := by
  unfold jq at h
  rw [Bool.and_eq_true] at h
  exact ⟨of_decide_eq_true h.1, of_decide_eq_true h.2⟩
theorem g_ifT {c : Jvm.ClassFile.Cond} {off : Int} (pc' : Nat) (ho : op m pc = some (.ifCond c off, len)) (hj : jq pc pc' off = true) (hc : cmpI c x 0 = true) (H : Gd m pc' L t σ k n o) : Gd m pc L (.inl x :: t) σ k n o := g_st ho (by obtain ⟨h1, h2⟩ := jq_of hj; unfold stepOp; dsimp only; unfold sIf; dsimp only; rw [if_pos h1, if_pos hc, h2]) H
theorem g_ifF {c : Jvm.ClassFile.Cond} {off : Int} (pc' pcj : Nat) (ho : op m pc = some (.ifCond c off, len)) (hj : jq pc pcj off = true) (hp : pc + 3 = pc') (hc : cmpI c x 0 = false) (H : Gd m pc' L t σ k n o) : Gd m pc L (.inl x :: t) σ k n o := g_st ho (by subst hp; obtain ⟨h1, h2⟩ := jq_of hj; unfold stepOp; dsimp only; unfold sIf; dsimp only; rw [if_pos h1, if_neg (by rw [hc]; decide)]) H
theorem g_icmpT {c : Jvm.ClassFile.Cond} {off : Int} (pc' : Nat) (ho : op m pc = some (.if_icmp c off, len)) (hj : jq pc pc' off = true) (hc : cmpI c x y = true) (H : Gd m pc' L t σ k n o) : Gd m pc L (.inl y :: .inl x :: t) σ k n o := g_st ho (by obtain ⟨h1, h2⟩ := jq_of hj; unfold stepOp; dsimp only; unfold sCmp; dsimp only; rw [if_pos h1, if_pos hc, h2]) H
theorem g_icmpF {c : Jvm.ClassFile.Cond} {off : Int} (pc' pcj : Nat) (ho : op m pc = some (.if_icmp c off, len)) (hj : jq pc pcj off = true) (hp : pc + 3 = pc') (hc : cmpI c x y = false) (H : Gd m pc' L t σ k n o) : Gd m pc L (.inl y :: .inl x :: t) σ k n o := g_st ho (by subst hp; obtain ⟨h1, h2⟩ := jq_of hj; unfold stepOp; dsimp only; unfold sCmp; dsimp only; rw [if_pos h1, if_neg (by rw [hc]; decide)]) H
theorem g_goto {off : Int} (pc' : Nat) (ho : op m pc = some (.goto off, len)) (hj : jq pc pc' off = true) (H : Gd m pc' L t σ k n o) : Gd m pc L t σ k n o := g_st ho (by obtain ⟨h1, h2⟩ := jq_of hj; unfold stepOp; dsimp only; unfold jmp; rw [if_pos h1, h2]) H
theorem g_nulT {off : Int} (pc' : Nat) (ho : op m pc = some (.ifnull off, len)) (hj : jq pc pc' off = true) (H : Gd m pc' L t σ k n o) : Gd m pc L (.inr (.inr none) :: t) σ k n o := g_st ho (by obtain ⟨h1, h2⟩ := jq_of hj; unfold stepOp; dsimp only; unfold sNul; dsimp only; rw [if_pos (show (none : Option Nat).isNone = true from rfl)]; unfold jmp; rw [if_pos h1, h2]) H
theorem g_nulF {off : Int} (pc' : Nat) (ho : op m pc = some (.ifnull off, len)) (hp : pc + 3 = pc') (H : Gd m pc' L t σ k n o) : Gd m pc L (.inr (.inr (some a)) :: t) σ k n o := g_st ho (by subst hp; rfl) H
theorem g_nonF {off : Int} (pc' : Nat) (ho : op m pc = some (.ifnonnull off, len)) (hp : pc + 3 = pc') (H : Gd m pc' L t σ k n o) : Gd m pc L (.inr (.inr none) :: t) σ k n o := g_st ho (by subst hp; rfl) H
theorem g_nonT {off : Int} (pc' : Nat) (ho : op m pc = some (.ifnonnull off, len)) (hj : jq pc pc' off = true) (H : Gd m pc' L t σ k n o) : Gd m pc L (.inr (.inr (some a)) :: t) σ k n o := g_st ho (by obtain ⟨h1, h2⟩ := jq_of hj; unfold stepOp; dsimp only; unfold sNul; dsimp only; rw [if_pos (show (some a).isNone = false from rfl)]; unfold jmp; rw [if_pos h1, h2]) H
theorem g_getI {ci f : Nat} {fin isR : Bool} {q : _} (pc' : Nat) (ho : op m pc = some (.getfield q, len)) (hp : pc + 3 = pc') (hf : fl (M_o m) q = some (ci, f, fin, isR)) (hS : qI a ci f = true) (H : Gd m pc' L (.inl (σ a f) :: t) σ k n o) : Gd m pc L (.inr (.inr (some a)) :: t) σ k n o := g_st ho (by
  subst hp
  unfold stepOp; dsimp only
  unfold qI at hS
  unfold sGetF
  rw [hf]
  dsimp only
  cases hq : SH0[a]? with
  | none => rw [hq] at hS; cases hS
  | some s =>
    obtain ⟨kd, l9, rf⟩ := s
    rw [hq] at hS
    dsimp only at hS ⊢
    rw [Bool.and_eq_true] at hS
    rw [if_pos (of_decide_eq_true hS.1), of_decide_eq_true hS.2]) H
theorem g_getR {ci f : Nat} {fin isR : Bool} {q : _} (pc' : Nat) (r : Nat) (ho : op m pc = some (.getfield q, len)) (hp : pc + 3 = pc') (hf : fl (M_o m) q = some (ci, f, fin, isR)) (hS : qR a ci f (some r) = true) (H : Gd m pc' L (.inr (.inr (some r)) :: t) σ k n o) : Gd m pc L (.inr (.inr (some a)) :: t) σ k n o := g_st ho (by
  subst hp
  unfold stepOp; dsimp only
  unfold qR at hS
  unfold sGetF
  rw [hf]
  dsimp only
  cases hq : SH0[a]? with
  | none => rw [hq] at hS; cases hS
  | some s =>
    obtain ⟨kd, l9, rf⟩ := s
    rw [hq] at hS
    dsimp only at hS ⊢
    rw [Bool.and_eq_true] at hS
    rw [if_pos (of_decide_eq_true hS.1), of_decide_eq_true hS.2]) H
theorem g_putI {ci f : Nat} {q : _} (pc' : Nat) (ho : op m pc = some (.putfield q, len)) (hp : pc + 3 = pc') (hf : fl (M_o m) q = some (ci, f, false, false)) (hS : qI a ci f = true) (H : Gd m pc' L t (upS σ a f x) k n o) : Gd m pc L (.inl x :: .inr (.inr (some a)) :: t) σ k n o := g_st ho (by
  subst hp
  unfold stepOp; dsimp only
  unfold qI at hS
  unfold sPutF
  rw [hf]
  dsimp only
  cases hq : SH0[a]? with
  | none => rw [hq] at hS; cases hS
  | some s =>
    obtain ⟨kd, l9, rf⟩ := s
    rw [hq] at hS
    dsimp only at hS ⊢
    rw [Bool.and_eq_true] at hS
    rw [if_pos ⟨of_decide_eq_true hS.1, rfl, rfl, of_decide_eq_true hS.2⟩]) H
theorem qA_of {kd l9 : Nat} (hS : qA a kd l9 = true) : ∃ rf, SH0[a]? = some (kd, l9, rf) := by
  unfold qA at hS
  cases hq : SH0[a]? with
  | none => rw [hq] at hS; cases hS
  | some s =>
    obtain ⟨kd, l9, rf⟩ := s
    rw [hq] at hS
    dsimp only at hS
    rw [Bool.and_eq_true] at hS
    rw [of_decide_eq_true hS.1, of_decide_eq_true hS.2]
    exact ⟨rf, rfl⟩
theorem g_iaload (pc' l9 : Nat) (ho : op m pc = some (.iaload, len)) (hp : pc + 1 = pc') (hS : qA a 0 l9 = true) (hi : 0 ≤ x ∧ x < (l9 : Int)) (H : Gd m pc' L (.inl (σ a x.toNat) :: t) σ k n o) : Gd m pc L (.inl x :: .inr (.inr (some a)) :: t) σ k n o := g_st ho (by
  subst hp
  obtain ⟨rf, hq⟩ := qA_of hS
  unfold stepOp; dsimp only
  unfold sIald
  dsimp only
  rw [if_neg (SH0_lt hq), hq]
  dsimp only
  rw [if_pos ⟨rfl, hi⟩]) H
theorem g_baload (pc' l9 : Nat) (ho : op m pc = some (.baload, len)) (hp : pc + 1 = pc') (hS : qA a 2 l9 = true) (hi : 0 ≤ x ∧ x < (l9 : Int)) (H : Gd m pc' L (.inl (σ a x.toNat) :: t) σ k n o) : Gd m pc L (.inl x :: .inr (.inr (some a)) :: t) σ k n o := g_st ho (by
  subst hp
  obtain ⟨rf, hq⟩ := qA_of hS
  unfold stepOp; dsimp only
  unfold sZald
  dsimp only
  rw [hq]
  dsimp only
  rw [if_pos ⟨rfl, hi⟩]) H
theorem g_laload (pc' l9 : Nat) (ho : op m pc = some (.laload, len)) (hp : pc + 1 = pc') (hS : qA a 1 l9 = true) (hi : 0 ≤ x ∧ x < (l9 : Int)) (H : Gd m pc' L (.inr (.inl (σ a x.toNat)) :: t) σ k n o) : Gd m pc L (.inl x :: .inr (.inr (some a)) :: t) σ k n o := g_st ho (by
  subst hp
  obtain ⟨rf, hq⟩ := qA_of hS
  unfold stepOp; dsimp only
  unfold sLald
  dsimp only
  rw [hq]
  dsimp only
  rw [if_pos ⟨rfl, hi⟩]) H
theorem g_iastore (pc' l9 : Nat) (ho : op m pc = some (.iastore, len)) (hp : pc + 1 = pc') (hS : qA a 0 l9 = true) (hi : 0 ≤ x ∧ x < (l9 : Int)) (H : Gd m pc' L t (upS σ a x.toNat y) k n o) : Gd m pc L (.inl y :: .inl x :: .inr (.inr (some a)) :: t) σ k n o := g_st ho (by
  subst hp
  obtain ⟨rf, hq⟩ := qA_of hS
  unfold stepOp; dsimp only
  unfold sIast
  dsimp only
  rw [hq]
  dsimp only
  rw [if_pos ⟨rfl, hi⟩]) H
theorem g_bastore (pc' l9 : Nat) (ho : op m pc = some (.bastore, len)) (hp : pc + 1 = pc') (hS : qA a 2 l9 = true) (hi : 0 ≤ x ∧ x < (l9 : Int)) (hy : y = 0 ∨ y = 1) (H : Gd m pc' L t (upS σ a x.toNat y) k n o) : Gd m pc L (.inl y :: .inl x :: .inr (.inr (some a)) :: t) σ k n o := g_st ho (by
  subst hp
  obtain ⟨rf, hq⟩ := qA_of hS
  unfold stepOp; dsimp only
  unfold sZast
  dsimp only
  rw [hq]
  dsimp only
  rw [if_pos ⟨rfl, hi.1, hi.2, hy⟩]) H
theorem g_lastore (pc' l9 : Nat) (ho : op m pc = some (.lastore, len)) (hp : pc + 1 = pc') (hS : qA a 1 l9 = true) (hi : 0 ≤ x ∧ x < (l9 : Int)) (H : Gd m pc' L t (upS σ a x.toNat y) k n o) : Gd m pc L (.inr (.inl y) :: .inl x :: .inr (.inr (some a)) :: t) σ k n o := g_st ho (by
  subst hp
  obtain ⟨rf, hq⟩ := qA_of hS
  unfold stepOp; dsimp only
  unfold sLast
  dsimp only
  rw [hq]
  dsimp only
  rw [if_pos ⟨rfl, hi⟩]) H
theorem g_aaload (pc' r : Nat) (ho : op m pc = some (.aaload, len)) (hp : pc + 1 = pc') (hi : 0 ≤ x) (hS : qE a x.toNat r = true) (H : Gd m pc' L (.inr (.inr (some r)) :: t) σ k n o) : Gd m pc L (.inl x :: .inr (.inr (some a)) :: t) σ k n o := g_st ho (by
  subst hp
  unfold stepOp; dsimp only
  unfold qE at hS
  unfold sAald
  dsimp only
  cases hq : SH0[a]? with
  | none => rw [hq] at hS; cases hS
  | some s =>
    obtain ⟨kd, l9, rf⟩ := s
    rw [hq] at hS
    dsimp only at hS ⊢
    rw [Bool.and_eq_true, Bool.or_eq_true] at hS
    have h2 := of_decide_eq_true hS.2
    have h3 := (List.getElem?_eq_some_iff.mp h2).1
    rw [if_pos ⟨hS.1.imp of_decide_eq_true of_decide_eq_true, hi, by omega⟩, h2]) H
theorem g_alenI (pc' l9 : Nat) (ho : op m pc = some (.arraylength, len)) (hp : pc + 1 = pc') (kd : Nat) (hk : Nat.blt kd 3 = true) (hS : qA a kd l9 = true) (hr : -2147483648 ≤ (l9 : Int) ∧ (l9 : Int) ≤ 2147483647) (H : Gd m pc' L (.inl (l9 : Int) :: t) σ k n o) : Gd m pc L (.inr (.inr (some a)) :: t) σ k n o := g_st ho (by
  subst hp
  obtain ⟨rf, hq⟩ := qA_of hS
  unfold stepOp; dsimp only
  unfold sAlen
  dsimp only
  rw [if_neg (SH0_lt hq), hq]
  dsimp only
  rw [if_pos (show kd < 3 from Nat.le_of_ble_eq_true hk), if_pos (inR_of hr)]) H
theorem g_alenR (pc' l9 : Nat) (ho : op m pc = some (.arraylength, len)) (hp : pc + 1 = pc') (hS : qN a l9 = true) (hr : -2147483648 ≤ (l9 : Int) ∧ (l9 : Int) ≤ 2147483647) (H : Gd m pc' L (.inl (l9 : Int) :: t) σ k n o) : Gd m pc L (.inr (.inr (some a)) :: t) σ k n o := g_st ho (by
  subst hp
  unfold stepOp; dsimp only
  unfold qN at hS
  unfold sAlen
  dsimp only
  cases hq : SH0[a]? with
  | none => rw [hq] at hS; cases hS
  | some s =>
    rw [if_neg (SH0_lt hq)]
    obtain ⟨kd, l8, rf⟩ := s
    rw [hq] at hS
    dsimp only at hS ⊢
    rw [Bool.and_eq_true, Bool.or_eq_true] at hS
    have h1 := hS.1.imp of_decide_eq_true of_decide_eq_true
    have h2 := of_decide_eq_true hS.2
    rw [if_neg (by omega), if_pos (by omega), h2, if_pos (inR_of hr)]) H
theorem g_throw {E : Nat} {q : _} (ho : op m pc = some (.new q, len)) (hx : xt m pc = some E) (hc : (6 ≤ M_f m ∧ (st.map avc).sum + 82 ≤ M_lo m ∧ k + 1 ≤ M_mc m ∧ n + 6 ≤ M_ms m ∧ M_hh m = [])) (H : o = (.inr E, σ)) : Gd m pc L st σ k n o := by
  subst H
  refine Ret_out ((step_op ho).trans ?_)
  show (match xt m pc with
      | some E => sThrow m E st (SH0, σ) k n
      | none => sNew m (cl (M_o m) _) (pc + 3) L st (SH0, σ) k n) = _
  rw [hx]
  dsimp only
  unfold sThrow
  rw [if_pos hc]
theorem g_iret (ho : op m pc = some (.ireturn, len)) (hr : M_ret m = some .int) (H : o = (.inl (some (.inl x)), σ)) : Gd m pc L [.inl x] σ k n o := by
  subst H
  refine Ret_out ((step_op ho).trans ?_)
  unfold stepOp; dsimp only
  unfold sIret
  rw [hr]
theorem g_zret (ho : op m pc = some (.ireturn, len)) (hr : M_ret m = some .boolean) (hx : x = 0 ∨ x = 1) (H : o = (.inl (some (.inl x)), σ)) : Gd m pc L [.inl x] σ k n o := by
  subst H
  refine Ret_out ((step_op ho).trans ?_)
  unfold stepOp; dsimp only
  unfold sIret
  rw [hr]
  dsimp only
  rw [if_pos hx]
theorem g_aret (ho : op m pc = some (.areturn, len)) (hr : isRT (M_ret m) = true) (H : o = (.inl (some (.inr (.inr r))), σ)) : Gd m pc L [.inr (.inr r)] σ k n o := by
  subst H
  refine Ret_out ((step_op ho).trans ?_)
  unfold stepOp; dsimp only
  unfold sAret
  dsimp only
  rw [if_pos hr]
theorem g_vret (ho : op m pc = some (.return_, len)) (hr : M_ret m = none) (H : o = (.inl none, σ)) : Gd m pc L [] σ k n o := by
  subst H
  refine Ret_out ((step_op ho).trans ?_)
  unfold stepOp; dsimp only
  unfold sVret
  rw [hr]
theorem g_max {q : _} (pc' : Nat) (ho : op m pc = some (.invokestatic q, len)) (hp : pc + 3 = pc') (hl : ml (M_o m) q = some 1000) (hc : 1 ≤ M_f m ∧ 21 ≤ M_lo m) (ht : Nat.ble (t.map avc).sum 8 = true) (H : Gd m pc' L (.inl (if x < y then y else x) :: t) σ k n o) : Gd m pc L (.inl y :: .inl x :: t) σ k n o := g_st ho (by
  subst hp
  unfold stepOp; dsimp only
  unfold sCall
  rw [hl]
  dsimp only
  rw [if_pos rfl, if_pos ⟨rfl, hc.1, by have := Nat.le_of_ble_eq_true ht; omega⟩]) H
theorem g_min {q : _} (pc' : Nat) (ho : op m pc = some (.invokestatic q, len)) (hp : pc + 3 = pc') (hl : ml (M_o m) q = some 1001) (hc : 1 ≤ M_f m ∧ 21 ≤ M_lo m) (ht : Nat.ble (t.map avc).sum 8 = true) (H : Gd m pc' L (.inl (if y < x then y else x) :: t) σ k n o) : Gd m pc L (.inl y :: .inl x :: t) σ k n o := g_st ho (by
  subst hp
  unfold stepOp; dsimp only
  unfold sCall
  rw [hl]
  dsimp only
  rw [if_neg (by decide), if_pos rfl, if_pos ⟨rfl, hc.1, by have := Nat.le_of_ble_eq_true ht; omega⟩]) H
/-- what is asked of the tables at a call -/
def cq (m j kd nj k n k' n' : Nat) : Bool := decide (¬ j = 1000) && (decide (¬ j = 1001) && (decide (¬ j = 1002) && (decide (kd = M_k j) && (decide (M_n j = nj) && (decide (M_f j + 1 ≤ M_f m) && (decide (8 + (M_L j + 11) + M_lo j ≤ M_lo m) && (decide (k + M_mc j = k') && (decide (n + M_ms j = n') && (decide (k' ≤ M_mc m) && (decide (n' ≤ M_ms m) && decide (nj ≤ M_L j)))))))))))
theorem call_st {q j nj k' n' : Nat} {as : List AV} (hl : ml (M_o m) q = some j) (hq : cq m j 0 nj k n k' n' = true) (hn : Nat.ble nj st.length = true) (has : (st.take nj).reverse = as) (ht : st.drop nj = t) (hs : Nat.ble (t.map avc).sum 8 = true) (hv : as.all (fun v => avc v == 1) = true) : sCall m 0 (ml (M_o m) q) pc L st (SH0, σ) k n = some (.inr (.inl (j, as, (pc, L, t, (SH0, σ), k', n')))) := by
  unfold cq at hq
  simp only [Bool.and_eq_true, decide_eq_true_eq] at hq
  obtain ⟨a1, a2, a3, a4, a5, a6, a7, a8, a9, b1, b2, b3⟩ := hq
  unfold sCall
  rw [hl]
  dsimp only
  rw [if_neg a1, if_neg a2, if_neg a3, a5, has, ht, a8, a9, if_pos ⟨a4, Nat.le_of_ble_eq_true hn, Nat.le_of_ble_eq_true hs, a6, a7, b1, b2, fun v h => eq_of_beq (List.all_eq_true.mp hv v h), b3⟩]
  rcases as with _ | ⟨a9, t9⟩ <;> rfl
theorem call_vi {q j nj k' n' k9 : Nat} {as as' : List AV} (hl : ml (M_o m) q = some j) (hq : cq m j 1 nj k n k' n' = true) (hn : Nat.ble nj st.length = true) (has : (st.take nj).reverse = as) (has' : as = .inr (.inr (some a)) :: as') (ht : st.drop nj = t) (hs : Nat.ble (t.map avc).sum 8 = true) (hv : as.all (fun v => avc v == 1) = true) (ho : ownCi (M_o j) + 10 = k9) (hS : qC a k9 = true) : sCall m 1 (ml (M_o m) q) pc L st (SH0, σ) k n = some (.inr (.inl (j, as, (pc, L, t, (SH0, σ), k', n')))) := by
  unfold cq at hq
  simp only [Bool.and_eq_true, decide_eq_true_eq] at hq
  obtain ⟨a1, a2, a3, a4, a5, a6, a7, a8, a9, b1, b2, b3⟩ := hq
  unfold sCall
  rw [hl]
  dsimp only
  rw [if_neg a1, if_neg a2, if_neg a3, a5, has, ht, a8, a9, if_pos ⟨a4, Nat.le_of_ble_eq_true hn, Nat.le_of_ble_eq_true hs, a6, a7, b1, b2, fun v h => eq_of_beq (List.all_eq_true.mp hv v h), b3⟩]
  subst has'
  show (match SH0[a]? with | some (kr, _, _) => if ownCi (M_o j) + 10 = kr then some (.inr (.inl (j, (.inr (.inr (some a)) :: as'), (pc, L, t, (SH0, σ), k', n')))) else none | none => none) = (some (.inr (.inl (j, (.inr (.inr (some a)) :: as'), (pc, L, t, (SH0, σ), k', n')))) : Option Ctl)
  unfold qC at hS
  cases hq : SH0[a]? with
  | none => rw [hq] at hS; cases hS
  | some s =>
    obtain ⟨kd, l9, rf⟩ := s
    rw [hq] at hS
    dsimp only at hS ⊢
    rw [if_pos (by rw [ho, of_decide_eq_true hS])]
theorem call_st' {q j nj k' n' : Nat} {as : List AV} (hl : ml (M_o m) q = some j) (hp : pc + 3 = pc') (hq : cq m j 0 nj k n k' n' = true) (hn : Nat.ble nj st.length = true) (has : (st.take nj).reverse = as) (ht : st.drop nj = t) (hs : Nat.ble (t.map avc).sum 8 = true) (hv : as.all (fun v => avc v == 1) = true) : stepOp m (.invokestatic q) pc L st (SH0, σ) k n = some (.inr (.inl (j, as, (pc', L, t, (SH0, σ), k', n')))) := by
  subst hp
  exact call_st hl hq hn has ht hs hv
theorem call_vi' {q j nj k' n' k9 : Nat} {as as' : List AV} (hl : ml (M_o m) q = some j) (hp : pc + 3 = pc') (hq : cq m j 1 nj k n k' n' = true) (hn : Nat.ble nj st.length = true) (has : (st.take nj).reverse = as) (has' : as = .inr (.inr (some a)) :: as') (ht : st.drop nj = t) (hs : Nat.ble (t.map avc).sum 8 = true) (hv : as.all (fun v => avc v == 1) = true) (ho : ownCi (M_o j) + 10 = k9) (hS : qC a k9 = true) : stepOp m (.invokevirtual q) pc L st (SH0, σ) k n = some (.inr (.inl (j, as, (pc', L, t, (SH0, σ), k', n')))) := by
  subst hp
  exact call_vi hl hq hn has has' ht hs hv ho hS
theorem g_call {i : Instr} {j k' n' : Nat} {as : List AV} {v : Option AV} {σ' : Sg} (pc' : Nat) (st' : List AV) (ho : op m pc = some (i, len)) (hs : stepOp m i pc L st (SH0, σ) k n = some (.inr (.inl (j, as, (pc', L, t, (SH0, σ), k', n'))))) (hc : Dd j as σ (.inl v, σ')) (hst : v.toList ++ t = st') (H : Gd m pc' L st' σ' k' n' o) : Gd m pc L st σ k n o := by
  subst hst
  exact Ret_call ((step_op ho).trans hs) hc H
theorem g_callX {i : Instr} {j k' n' E : Nat} {as : List AV} {σ' : Sg} (pc' : Nat) (ho : op m pc = some (i, len)) (hs : stepOp m i pc L st (SH0, σ) k n = some (.inr (.inl (j, as, (pc', L, t, (SH0, σ), k', n'))))) (hc : Dd j as σ (.inr E, σ')) (hh : M_hh m = []) (H : o = (.inr E, σ')) : Gd m pc L st σ k n o := by
  subst H
  refine Ret_callX ((step_op ho).trans hs) hc ?_
  show thrOf m pc E (SH0, σ') = _
  unfold thrOf hnd
  rw [hh]
  rfl
theorem g_callH {i : Instr} {j k' n' E : Nat} {c : Int} {as : List AV} {σ' : Sg} (pc' : Nat) (ho : op m pc = some (i, len)) (hs : stepOp m i pc L st (SH0, σ) k n = some (.inr (.inl (j, as, (pc', L, t, (SH0, σ), k', n'))))) (hc : Dd j as σ (.inr E, σ')) (hh : hnd m pc E = some c) (hr : inR c = true) (H : o = (.inl (some (.inl c)), σ')) : Gd m pc L st σ k n o := by
  subst H
  refine Ret_callX ((step_op ho).trans hs) hc ?_
  show thrOf m pc E (SH0, σ') = _
  unfold thrOf
  rw [hh]
  dsimp only
  rw [if_pos hr]
end
end
