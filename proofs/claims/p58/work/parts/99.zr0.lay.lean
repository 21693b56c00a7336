/-! The law's own runs: over the class's cells, the law's own cells behind them, and a budget of cells. -/
noncomputable section
def zRet (m : Nat) (F : Fr) (o : Out) : Prop := ∃ N, zrun N m F = some o
theorem zrun_eq (n m : Nat) (F : Fr) : zrun (n + 1) m F = (match zstep m F with
      | none => none
      | some (.inl F') => zrun n m F'
      | some (.inr (.inr o)) => some o
      | some (.inr (.inl (j, as, F'))) => match zrun n j (zentryF j as F'.2.2.2.1) with
          | none => none
          | some (.inl v, h) => zrun n m (pushO v F' h)
          | some (.inr E, h) => zthrOf m F.1 E h) := rfl
theorem zrun_succ : ∀ (N m : Nat) (F : Fr) (o : Out), zrun N m F = some o → zrun (N + 1) m F = some o := by
  intro N
  induction N with
  | zero => intro m F o h; cases h
  | succ N ih =>
    intro m F o h
    rw [zrun_eq] at h ⊢
    cases hs : zstep m F with
    | none => rw [hs] at h; cases h
    | some r =>
      rw [hs] at h
      rcases r with F' | ⟨j, as, F'⟩ | q
      · exact ih _ _ _ h
      · dsimp only at h ⊢
        cases hc : zrun N j (zentryF j as F'.2.2.2.1) with
        | none => rw [hc] at h; cases h
        | some q =>
          rw [hc] at h
          rw [ih _ _ _ hc]
          obtain ⟨w, h2⟩ := q
          rcases w with v | E
          · exact ih _ _ _ h
          · exact h
      · exact h
theorem zrun_le {N N' m : Nat} {F : Fr} {o : Out} (hN : N ≤ N') (h : zrun N m F = some o) : zrun N' m F = some o := by
  induction hN with
  | refl => exact h
  | step _ ih => exact zrun_succ _ _ _ _ ih
theorem zRet_step {m : Nat} {F F' : Fr} {o : Out} (hs : zstep m F = some (.inl F')) (H : zRet m F' o) : zRet m F o := by
  obtain ⟨N, h⟩ := H
  exact ⟨N + 1, by rw [zrun_eq, hs]; exact h⟩
theorem zRet_out {m : Nat} {F : Fr} {o : Out} (hs : zstep m F = some (.inr (.inr o))) : zRet m F o := ⟨1, by rw [zrun_eq, hs]⟩
theorem zRet_call {m j : Nat} {as : List AV} {F F' : Fr} {v : Option AV} {h : HP} {o : Out} (hs : zstep m F = some (.inr (.inl (j, as, F')))) (hc : zRet j (zentryF j as F'.2.2.2.1) (.inl v, h)) (H : zRet m (pushO v F' h) o) : zRet m F o := by
  obtain ⟨N1, h1⟩ := hc
  obtain ⟨N2, h2⟩ := H
  refine ⟨max N1 N2 + 1, ?_⟩
  rw [zrun_eq, hs]
  dsimp only
  rw [zrun_le (Nat.le_max_left N1 N2) h1]
  exact zrun_le (Nat.le_max_right N1 N2) h2
theorem zRet_callX {m j E : Nat} {as : List AV} {F F' : Fr} {h : HP} {o : Out} (hs : zstep m F = some (.inr (.inl (j, as, F')))) (hc : zRet j (zentryF j as F'.2.2.2.1) (.inr E, h)) (H : zthrOf m F.1 E h = some o) : zRet m F o := by
  obtain ⟨N1, h1⟩ := hc
  refine ⟨N1 + 1, ?_⟩
  rw [zrun_eq, hs]
  dsimp only
  rw [h1]
  exact H
/-- what the law's state is made of: the shapes of its own cells, their numbers and the script's, the joint numbers of class and ghost -/
abbrev WS : Type := List SH × Sg × Sg
abbrev Ro : Type := (Option AV ⊕ Nat) × WS
def hW (w : WS) : HP := (SH0.take 682 ++ w.1, mixS 682 w.2.1 w.2.2)
/-- the class's part of the joint numbers after a call -/
def wS (w : WS) (σ : Sg) : WS := (w.1, w.2.1, σ)
/-- a number of the law's own cells is put -/
def wU (w : WS) (a k : Nat) (v : Int) : WS := (w.1, upS w.2.1 a k v, w.2.2)
/-- a new row of ints -/
def wN (w : WS) (l : Nat) : WS := (w.1 ++ [(0, l, [])], w.2.1, w.2.2)
/-- the run from here returns o, whatever was used before, if the budget r is left -/
def Lg (m pc : Nat) (L : List (Option AV)) (st : List AV) (w : WS) (r : Nat) (o : Ro) : Prop := ∀ k n, k + r ≤ zM_mc m → n + 20 * r ≤ zM_ms m → zRet m (pc, L, st, hW w, k, n) (o.1, hW o.2)
/-- a call of a method of the law -/
def Lx (j : Nat) (as : List AV) (w : WS) (o : Ro) : Prop := Lg j 0 (as.map some ++ List.replicate (zM_L j - as.length) none) [] w (zM_mc j) o
/-- a call of the class: over the joint numbers -/
def Dc (j : Nat) (as : List AV) (σ : Sg) (v : Option AV ⊕ Nat) (σ' : Sg) : Prop := ∃ s, Dd j as σ (v, s) ∧ ∀ a, a < 682 → s a = σ' a
theorem Lg_mono {m pc r r' : Nat} {L : List (Option AV)} {st : List AV} {w : WS} {o : Ro} (h : r' ≤ r) (H : Lg m pc L st w r' o) : Lg m pc L st w r o := fun k n h1 h2 => H k n (by omega) (by omega)
def zswI (lo hi : Int) (offs : Array Int) (v : Int) (pc pc' : Nat) : Bool := decide (lo ≤ v) && (decide (v ≤ hi) && (match offs[(v - lo).toNat]? with
  | some off => jq pc pc' off
  | none => false))
section
variable {m pc pc' len r : Nat} {L : List (Option AV)} {st t : List AV} {w : WS} {o : Ro} {x y : Int} {a : Nat}
theorem zstep_op {i : Instr} {h : HP} {k n : Nat} (ho : zop m pc = some (i, len)) : zstep m (pc, L, st, h, k, n) = zstepOp m i pc L st h k n := by
  unfold zstep
  dsimp only
  rw [ho]
theorem zq_st {i : Instr} {L' : List (Option AV)} {st' : List AV} {w' : WS} (ho : zop m pc = some (i, len)) (hs : ∀ k n, zstepOp m i pc L st (hW w) k n = some (.inl (pc', L', st', hW w', k, n))) (H : Lg m pc' L' st' w' r o) : Lg m pc L st w r o := fun k n h1 h2 => zRet_step ((zstep_op ho).trans (hs k n)) (H k n h1 h2)
theorem zq_iload_n {j : Fin 4} (pc' : Nat) (ho : zop m pc = some (.iload_n j, len)) (hp : pc + 1 = pc') (hL : L[j.val]? = some (some (.inl x))) (H : Lg m pc' L (.inl x :: st) w r o) : Lg m pc L st w r o := zq_st ho (fun k n => by subst hp; unfold zstepOp; dsimp only; unfold sLdI; rw [hL]) H
theorem zq_iload {j : Nat} (pc' : Nat) (ho : zop m pc = some (.iload j, len)) (hp : pc + 2 = pc') (hL : L[j]? = some (some (.inl x))) (H : Lg m pc' L (.inl x :: st) w r o) : Lg m pc L st w r o := zq_st ho (fun k n => by subst hp; unfold zstepOp; dsimp only; unfold sLdI; rw [hL]) H
theorem zq_aload_n {q9 : Option Nat} {j : Fin 4} (pc' : Nat) (ho : zop m pc = some (.aload_n j, len)) (hp : pc + 1 = pc') (hL : L[j.val]? = some (some (.inr (.inr q9)))) (H : Lg m pc' L (.inr (.inr q9) :: st) w r o) : Lg m pc L st w r o := zq_st ho (fun k n => by subst hp; unfold zstepOp; dsimp only; unfold sLdA; rw [hL]) H
theorem zq_aload {q9 : Option Nat} {j : Nat} (pc' : Nat) (ho : zop m pc = some (.aload j, len)) (hp : pc + 2 = pc') (hL : L[j]? = some (some (.inr (.inr q9)))) (H : Lg m pc' L (.inr (.inr q9) :: st) w r o) : Lg m pc L st w r o := zq_st ho (fun k n => by subst hp; unfold zstepOp; dsimp only; unfold sLdA; rw [hL]) H
theorem zq_istore_n {j : Fin 4} (pc' : Nat) (L' : List (Option AV)) (ho : zop m pc = some (.istore_n j, len)) (hp : pc + 1 = pc') (hj : Nat.blt j.val L.length = true) (hL : L.set j.val (some (.inl x)) = L') (H : Lg m pc' L' st w r o) : Lg m pc L (.inl x :: st) w r o := zq_st ho (fun k n => by subst hp hL; unfold zstepOp; dsimp only; unfold sStI; dsimp only; exact if_pos (Nat.le_of_ble_eq_true hj)) H
theorem zq_istore {j : Nat} (pc' : Nat) (L' : List (Option AV)) (ho : zop m pc = some (.istore j, len)) (hp : pc + 2 = pc') (hj : Nat.blt j L.length = true) (hL : L.set j (some (.inl x)) = L') (H : Lg m pc' L' st w r o) : Lg m pc L (.inl x :: st) w r o := zq_st ho (fun k n => by subst hp hL; unfold zstepOp; dsimp only; unfold sStI; dsimp only; exact if_pos (Nat.le_of_ble_eq_true hj)) H
theorem zq_astore_n {q9 : Option Nat} {j : Fin 4} (pc' : Nat) (L' : List (Option AV)) (ho : zop m pc = some (.astore_n j, len)) (hp : pc + 1 = pc') (hj : Nat.blt j.val L.length = true) (hL : L.set j.val (some (.inr (.inr q9))) = L') (H : Lg m pc' L' st w r o) : Lg m pc L (.inr (.inr q9) :: st) w r o := zq_st ho (fun k n => by subst hp hL; unfold zstepOp; dsimp only; unfold sStA; dsimp only; exact if_pos (Nat.le_of_ble_eq_true hj)) H
theorem zq_astore {q9 : Option Nat} {j : Nat} (pc' : Nat) (L' : List (Option AV)) (ho : zop m pc = some (.astore j, len)) (hp : pc + 2 = pc') (hj : Nat.blt j L.length = true) (hL : L.set j (some (.inr (.inr q9))) = L') (H : Lg m pc' L' st w r o) : Lg m pc L (.inr (.inr q9) :: st) w r o := zq_st ho (fun k n => by subst hp hL; unfold zstepOp; dsimp only; unfold sStA; dsimp only; exact if_pos (Nat.le_of_ble_eq_true hj)) H
theorem zq_iconst {v : Int} (pc' : Nat) (ho : zop m pc = some (.iconst v, len)) (hp : pc + 1 = pc') (hr : inR v = true) (H : Lg m pc' L (.inl v :: st) w r o) : Lg m pc L st w r o := zq_st ho (fun k n => by subst hp; exact sK_ok hr) H
theorem zq_bipush {v : Int} (pc' : Nat) (ho : zop m pc = some (.bipush v, len)) (hp : pc + 2 = pc') (hr : (-128 ≤ v ∧ v ≤ 127)) (H : Lg m pc' L (.inl v :: st) w r o) : Lg m pc L st w r o := zq_st ho (fun k n => by subst hp; show (if _ then _ else _) = _; rw [if_pos hr]; exact sK_ok (inR_of (by omega))) H
theorem zq_sipush {v : Int} (pc' : Nat) (ho : zop m pc = some (.sipush v, len)) (hp : pc + 3 = pc') (hr : (-32768 ≤ v ∧ v ≤ 32767)) (H : Lg m pc' L (.inl v :: st) w r o) : Lg m pc L st w r o := zq_st ho (fun k n => by subst hp; show (if _ then _ else _) = _; rw [if_pos hr]; exact sK_ok (inR_of (by omega))) H
theorem zq_ldc {v : Int} {q : _} (pc' : Nat) (ho : zop m pc = some (.ldc q, len)) (hp : pc + 2 = pc') (hk : zck (zM_o m) q = some v) (hr : inR v = true) (H : Lg m pc' L (.inl v :: st) w r o) : Lg m pc L st w r o := zq_st ho (fun k n => by subst hp; show (match zck (zM_o m) _ with | some v => sK v _ L st (hW w) k n | none => none) = _; rw [hk]; exact sK_ok hr) H
theorem zq_iinc {j : _} {v : Int} (pc' : Nat) (L' : List (Option AV)) (ho : zop m pc = some (.iinc j v, len)) (hp : pc + 3 = pc') (hL : L[j]? = some (some (.inl x))) (hr : -2147483648 ≤ x + v ∧ x + v ≤ 2147483647) (hL' : L.set j (some (.inl (x + v))) = L') (H : Lg m pc' L' st w r o) : Lg m pc L st w r o := zq_st ho (fun k n => by subst hp hL'; unfold zstepOp; dsimp only; rw [hL]; dsimp only; rw [if_pos (inR_of hr)]) H
theorem zq_iadd (pc' : Nat) (ho : zop m pc = some (.iadd, len)) (hp : pc + 1 = pc') (hr : -2147483648 ≤ x + y ∧ x + y ≤ 2147483647) (H : Lg m pc' L (.inl (x + y) :: t) w r o) : Lg m pc L (.inl y :: .inl x :: t) w r o := zq_st ho (fun k n => by subst hp; exact sBin_ok hr) H
theorem zq_isub (pc' : Nat) (ho : zop m pc = some (.isub, len)) (hp : pc + 1 = pc') (hr : -2147483648 ≤ x - y ∧ x - y ≤ 2147483647) (H : Lg m pc' L (.inl (x - y) :: t) w r o) : Lg m pc L (.inl y :: .inl x :: t) w r o := zq_st ho (fun k n => by subst hp; exact sBin_ok hr) H
theorem zq_imul (pc' : Nat) (ho : zop m pc = some (.imul, len)) (hp : pc + 1 = pc') (hr : -2147483648 ≤ x * y ∧ x * y ≤ 2147483647) (H : Lg m pc' L (.inl (x * y) :: t) w r o) : Lg m pc L (.inl y :: .inl x :: t) w r o := zq_st ho (fun k n => by subst hp; exact sBin_ok hr) H
theorem zq_idiv (pc' : Nat) (ho : zop m pc = some (.idiv, len)) (hp : pc + 1 = pc') (hr : 0 < y) (H : Lg m pc' L (.inl (Int.tdiv x y) :: t) w r o) : Lg m pc L (.inl y :: .inl x :: t) w r o := zq_st ho (fun k n => by subst hp; exact sDiv_ok hr) H
theorem zq_irem (pc' : Nat) (ho : zop m pc = some (.irem, len)) (hp : pc + 1 = pc') (hr : 0 < y) (H : Lg m pc' L (.inl (Int.tmod x y) :: t) w r o) : Lg m pc L (.inl y :: .inl x :: t) w r o := zq_st ho (fun k n => by subst hp; exact sDiv_ok hr) H
theorem zq_iand (pc' : Nat) (ho : zop m pc = some (.iand, len)) (hp : pc + 1 = pc') (H : Lg m pc' L (.inl (iAnd x y) :: t) w r o) : Lg m pc L (.inl y :: .inl x :: t) w r o := zq_st ho (fun k n => by subst hp; rfl) H
theorem zq_ior (pc' : Nat) (ho : zop m pc = some (.ior, len)) (hp : pc + 1 = pc') (H : Lg m pc' L (.inl (iOr x y) :: t) w r o) : Lg m pc L (.inl y :: .inl x :: t) w r o := zq_st ho (fun k n => by subst hp; rfl) H
theorem zq_ixor (pc' : Nat) (ho : zop m pc = some (.ixor, len)) (hp : pc + 1 = pc') (H : Lg m pc' L (.inl (iXor x y) :: t) w r o) : Lg m pc L (.inl y :: .inl x :: t) w r o := zq_st ho (fun k n => by subst hp; rfl) H
theorem zq_ishl (pc' : Nat) (ho : zop m pc = some (.ishl, len)) (hp : pc + 1 = pc') (H : Lg m pc' L (.inl (iShl x y) :: t) w r o) : Lg m pc L (.inl y :: .inl x :: t) w r o := zq_st ho (fun k n => by subst hp; rfl) H
theorem zq_ishr (pc' : Nat) (ho : zop m pc = some (.ishr, len)) (hp : pc + 1 = pc') (H : Lg m pc' L (.inl (iShr x y) :: t) w r o) : Lg m pc L (.inl y :: .inl x :: t) w r o := zq_st ho (fun k n => by subst hp; rfl) H
theorem zq_iushr (pc' : Nat) (ho : zop m pc = some (.iushr, len)) (hp : pc + 1 = pc') (H : Lg m pc' L (.inl (iUshr x y) :: t) w r o) : Lg m pc L (.inl y :: .inl x :: t) w r o := zq_st ho (fun k n => by subst hp; rfl) H
theorem zq_ineg (pc' : Nat) (ho : zop m pc = some (.ineg, len)) (hp : pc + 1 = pc') (hr : -2147483648 ≤ -x ∧ -x ≤ 2147483647) (H : Lg m pc' L (.inl (-x) :: t) w r o) : Lg m pc L (.inl x :: t) w r o := zq_st ho (fun k n => by subst hp; show (if inR (-x) = true then _ else _) = _; rw [if_pos (inR_of hr)]) H
theorem zq_dup {v : AV} (pc' : Nat) (ho : zop m pc = some (.dup, len)) (hp : pc + 1 = pc') (hv : avc v = 1) (H : Lg m pc' L (v :: v :: t) w r o) : Lg m pc L (v :: t) w r o := zq_st ho (fun k n => by subst hp; show (if avc v = 1 then _ else _) = _; rw [if_pos hv]) H
theorem zq_dup2 {v9 w9 : AV} (pc' : Nat) (ho : zop m pc = some (.dup2, len)) (hp : pc + 1 = pc') (hv : avc v9 = 1) (hw : avc w9 = 1) (H : Lg m pc' L (v9 :: w9 :: v9 :: w9 :: t) w r o) : Lg m pc L (v9 :: w9 :: t) w r o := zq_st ho (fun k n => by subst hp; show (if avc v9 = 1 ∧ avc w9 = 1 then _ else _) = _; rw [if_pos ⟨hv, hw⟩]) H
theorem zq_pop {v : AV} (pc' : Nat) (ho : zop m pc = some (.pop, len)) (hp : pc + 1 = pc') (hv : avc v = 1) (H : Lg m pc' L t w r o) : Lg m pc L (v :: t) w r o := zq_st ho (fun k n => by subst hp; show (if avc v = 1 then _ else _) = _; rw [if_pos hv]) H
theorem zq_ifT {c : Jvm.ClassFile.Cond} {off : Int} (pc' : Nat) (ho : zop m pc = some (.ifCond c off, len)) (hj : jq pc pc' off = true) (hc : cmpI c x 0 = true) (H : Lg m pc' L t w r o) : Lg m pc L (.inl x :: t) w r o := zq_st ho (fun k n => by obtain ⟨h1, h2⟩ := jq_of hj; unfold zstepOp; dsimp only; unfold sIf; dsimp only; rw [if_pos h1, if_pos hc, h2]) H
theorem zq_ifF {c : Jvm.ClassFile.Cond} {off : Int} (pc' pcj : Nat) (ho : zop m pc = some (.ifCond c off, len)) (hj : jq pc pcj off = true) (hp : pc + 3 = pc') (hc : cmpI c x 0 = false) (H : Lg m pc' L t w r o) : Lg m pc L (.inl x :: t) w r o := zq_st ho (fun k n => by subst hp; obtain ⟨h1, h2⟩ := jq_of hj; unfold zstepOp; dsimp only; unfold sIf; dsimp only; rw [if_pos h1, if_neg (by rw [hc]; decide)]) H
theorem zq_icmpT {c : Jvm.ClassFile.Cond} {off : Int} (pc' : Nat) (ho : zop m pc = some (.if_icmp c off, len)) (hj : jq pc pc' off = true) (hc : cmpI c x y = true) (H : Lg m pc' L t w r o) : Lg m pc L (.inl y :: .inl x :: t) w r o := zq_st ho (fun k n => by obtain ⟨h1, h2⟩ := jq_of hj; unfold zstepOp; dsimp only; unfold sCmp; dsimp only; rw [if_pos h1, if_pos hc, h2]) H
theorem zq_icmpF {c : Jvm.ClassFile.Cond} {off : Int} (pc' pcj : Nat) (ho : zop m pc = some (.if_icmp c off, len)) (hj : jq pc pcj off = true) (hp : pc + 3 = pc') (hc : cmpI c x y = false) (H : Lg m pc' L t w r o) : Lg m pc L (.inl y :: .inl x :: t) w r o := zq_st ho (fun k n => by subst hp; obtain ⟨h1, h2⟩ := jq_of hj; unfold zstepOp; dsimp only; unfold sCmp; dsimp only; rw [if_pos h1, if_neg (by rw [hc]; decide)]) H
theorem zq_goto {off : Int} (pc' : Nat) (ho : zop m pc = some (.goto off, len)) (hj : jq pc pc' off = true) (H : Lg m pc' L t w r o) : Lg m pc L t w r o := zq_st ho (fun k n => by obtain ⟨h1, h2⟩ := jq_of hj; unfold zstepOp; dsimp only; unfold jmp; rw [if_pos h1, h2]) H
theorem zq_slen (pc' : Nat) (ho : zop m pc = some (.arraylength, len)) (hp : pc + 1 = pc') (H : Lg m pc' L (.inl (w.2.1 (SCR + 1) 0) :: t) w r o) : Lg m pc L (.inr (.inr (some SCR)) :: t) w r o := zq_st ho (fun k n => by
  subst hp
  unfold zstepOp sAlen
  dsimp only
  rw [if_pos rfl]
  show some (Sum.inl (_, _, (.inl (mixS 682 w.2.1 w.2.2 (SCR + 1) 0) :: t), _, _, _)) = _
  unfold mixS
  rw [if_neg (by decide)]) H
theorem zq_scr (pc' : Nat) (ho : zop m pc = some (.iaload, len)) (hp : pc + 1 = pc') (hi : 0 ≤ x ∧ x < w.2.1 (SCR + 1) 0) (H : Lg m pc' L (.inl (w.2.1 SCR x.toNat) :: t) w r o) : Lg m pc L (.inl x :: .inr (.inr (some SCR)) :: t) w r o := zq_st ho (fun k n => by
  subst hp
  have e1 : (hW w).2 (SCR + 1) 0 = w.2.1 (SCR + 1) 0 := by
    show mixS 682 w.2.1 w.2.2 (SCR + 1) 0 = _
    unfold mixS
    rw [if_neg (by decide)]
  have e2 : (hW w).2 SCR x.toNat = w.2.1 SCR x.toNat := by
    show mixS 682 w.2.1 w.2.2 SCR x.toNat = _
    unfold mixS
    rw [if_neg (by decide)]
  unfold zstepOp sIald
  dsimp only
  rw [if_pos rfl, e1, if_pos hi, e2]) H
theorem SHt_len : (SH0.take 682).length = 682 := by rw [List.length_take, SH0_len]; decide
theorem hW_own {a : Nat} (h : 682 ≤ a) : (hW w).1[a]? = w.1[a - 682]? := by
  show (SH0.take 682 ++ w.1)[a]? = _
  rw [List.getElem?_append_right (by rw [SHt_len]; exact h), SHt_len]
theorem hW_num {a : Nat} (h : 682 ≤ a) (k : Nat) : (hW w).2 a k = w.2.1 a k := if_neg (by omega)
theorem hW_up {a : Nat} (h : 682 ≤ a) (k : Nat) (v : Int) : ((hW w).1, upS (hW w).2 a k v) = hW (wU w a k v) := by
  show (_, _) = (_, _)
  refine congrArg (fun z => (SH0.take 682 ++ w.1, z)) ?_
  funext b i
  show upS (mixS 682 w.2.1 w.2.2) a k v b i = mixS 682 (upS w.2.1 a k v) w.2.2 b i
  unfold upS mixS
  by_cases hb : b < 682
  · rw [if_neg (by omega), if_pos hb, if_pos hb]
  · rw [if_neg hb, if_neg hb]
theorem zq_iaload (pc' l9 : Nat) (ho : zop m pc = some (.iaload, len)) (hp : pc + 1 = pc') (ha : 682 ≤ a ∧ ¬ a = SCR) (hS : w.1[a - 682]? = some (0, l9, [])) (hi : 0 ≤ x ∧ x < (l9 : Int)) (H : Lg m pc' L (.inl (w.2.1 a x.toNat) :: t) w r o) : Lg m pc L (.inl x :: .inr (.inr (some a)) :: t) w r o := zq_st ho (fun k n => by
  subst hp
  unfold zstepOp sIald
  dsimp only
  rw [if_neg ha.2, hW_own ha.1, hS]
  dsimp only
  rw [if_pos ⟨rfl, hi⟩, hW_num ha.1]) H
theorem zq_iastore (pc' l9 : Nat) (ho : zop m pc = some (.iastore, len)) (hp : pc + 1 = pc') (ha : 682 ≤ a) (hS : w.1[a - 682]? = some (0, l9, [])) (hi : 0 ≤ x ∧ x < (l9 : Int)) (H : Lg m pc' L t (wU w a x.toNat y) r o) : Lg m pc L (.inl y :: .inl x :: .inr (.inr (some a)) :: t) w r o := zq_st ho (fun k n => by
  subst hp
  unfold zstepOp sIast
  dsimp only
  rw [hW_own ha, hS]
  dsimp only
  rw [if_pos ⟨rfl, hi⟩, hW_up ha]) H
/-- a new row of ints costs one cell -/
theorem zq_newarray (pc' : Nat) {l9 : Nat} (ho : zop m pc = some (.newarray .int, len)) (hp : pc + 2 = pc') (hl : l9 ≤ 20) (hb : 682 + w.1.length < SCR) (hr : 1 ≤ r) (H : Lg m pc' L (.inr (.inr (some (682 + w.1.length))) :: t) (wN w l9) (r - 1) o) : Lg m pc L (.inl (l9 : Int) :: t) w r o := fun k n h1 h2 => by
  subst hp
  have hlen : (hW w).1.length = 682 + w.1.length := by
    show (SH0.take 682 ++ w.1).length = _
    rw [List.length_append, SHt_len]
  refine zRet_step (F' := (pc + 2, L, .inr (.inr (some (682 + w.1.length))) :: t, hW (wN w l9), k + 1, n + l9)) ((zstep_op ho).trans ?_) (H (k + 1) (n + l9) (by omega) (by omega))
  unfold zstepOp zsNewA
  dsimp only
  rw [hlen, if_pos ⟨by omega, by omega, hb, by omega, by omega⟩, if_pos (by decide)]
  have e : ((hW w).1 ++ [(0, ((l9 : Nat) : Int).toNat, [])], (hW w).2) = hW (wN w l9) := by
    show (SH0.take 682 ++ w.1 ++ _, _) = (SH0.take 682 ++ (w.1 ++ _), _)
    rw [List.append_assoc, Int.toNat_natCast]
    rfl
  rw [e, Int.toNat_natCast]
/-- what is asked of the tables at a call -/
def cqz (m j kd nj c : Nat) : Bool := decide (¬ j = 1000) && (decide (¬ j = 1001) && (decide (¬ j = 1002) && (decide (kd = zM_k j) && (decide (zM_n j = nj) && (decide (zM_f j + 1 ≤ zM_f m) && (decide (8 + (zM_L j + 11) + zM_lo j ≤ zM_lo m) && (decide (zM_mc j = c) && (decide (zM_ms j ≤ 20 * c) && decide (nj ≤ zM_L j)))))))))
theorem zcall_st {q j nj c k n : Nat} {as : List AV} {h : HP} (hl : zml (zM_o m) q = some j) (hp : pc + 3 = pc') (hq : cqz m j 0 nj c = true) (hk : k + c ≤ zM_mc m) (hn9 : n + 20 * c ≤ zM_ms m) (hn : Nat.ble nj st.length = true) (has : (st.take nj).reverse = as) (ht : st.drop nj = t) (hs : Nat.ble (t.map avc).sum 8 = true) (hv : as.all (fun v => avc v == 1) = true) : zstepOp m (.invokestatic q) pc L st h k n = some (.inr (.inl (j, as, (pc', L, t, h, k + c, n + zM_ms j)))) := by
  subst hp
  unfold cqz at hq
  simp only [Bool.and_eq_true, decide_eq_true_eq] at hq
  obtain ⟨a1, a2, a3, a4, a5, a6, a7, a8, a9, b3⟩ := hq
  unfold zstepOp zsCall
  dsimp only
  rw [hl]
  dsimp only
  rw [if_neg a1, if_neg a2, if_neg a3, a5, has, ht, a8, if_pos ⟨a4, Nat.le_of_ble_eq_true hn, Nat.le_of_ble_eq_true hs, a6, a7, hk, by omega, fun v h => eq_of_beq (List.all_eq_true.mp hv v h), b3⟩]
  rcases as with _ | ⟨a9, t9⟩ <;> rfl
theorem zcall_vi {q j nj c k n : Nat} {as as' : List AV} (hl : zml (zM_o m) q = some j) (hp : pc + 3 = pc') (hq : cqz m j 1 nj c = true) (hk : k + c ≤ zM_mc m) (hn9 : n + 20 * c ≤ zM_ms m) (hn : Nat.ble nj st.length = true) (has : (st.take nj).reverse = as) (has' : as = .inr (.inr (some 0)) :: as') (ht : st.drop nj = t) (hs : Nat.ble (t.map avc).sum 8 = true) (hv : as.all (fun v => avc v == 1) = true) (ho : zownCi (zM_o j) + 10 = 20) : zstepOp m (.invokevirtual q) pc L st (hW w) k n = some (.inr (.inl (j, as, (pc', L, t, hW w, k + c, n + zM_ms j)))) := by
  subst hp
  unfold cqz at hq
  simp only [Bool.and_eq_true, decide_eq_true_eq] at hq
  obtain ⟨a1, a2, a3, a4, a5, a6, a7, a8, a9, b3⟩ := hq
  unfold zstepOp zsCall
  dsimp only
  rw [hl]
  dsimp only
  rw [if_neg a1, if_neg a2, if_neg a3, a5, has, ht, a8, if_pos ⟨a4, Nat.le_of_ble_eq_true hn, Nat.le_of_ble_eq_true hs, a6, a7, hk, by omega, fun v h => eq_of_beq (List.all_eq_true.mp hv v h), b3⟩]
  subst has'
  have e0 : (hW w).1[0]? = SH0[0]? := by
    show (SH0.take 682 ++ w.1)[0]? = _
    rw [List.getElem?_append_left (by rw [SHt_len]; decide), List.getElem?_take_of_lt (by decide)]
  show ((match (hW w).1[0]? with | some (kr, _, _) => if zownCi (zM_o j) + 10 = kr then some (.inr (.inl (j, (.inr (.inr (some 0)) :: as'), (pc + 3, L, t, hW w, k + c, n + zM_ms j)))) else none | none => none) : Option Ctl) = some (.inr (.inl (j, (.inr (.inr (some 0)) :: as'), (pc + 3, L, t, hW w, k + c, n + zM_ms j))))
  rw [e0, ho]
  rfl
/-- a call of the class comes to what the joint call comes to -/
theorem zRet_of_Dc {j : Nat} {as : List AV} {v : Option AV ⊕ Nat} {σ' : Sg} (hj : cKb j = true) (hj2 : rN j = j) (hA : clS 682 as) (H : Dc j as w.2.2 v σ') : zRet j (zentryF j as (hW w)) (v, hW (wS w σ')) := by
  obtain ⟨s, h1, h2⟩ := H
  obtain ⟨N, hN⟩ := Dd_swap w.1 w.2.1 hA h1
  have h3 := sim_run N j _ _ hj hN
  rw [hj2, e_entry hj, hj2] at h3
  refine ⟨N, h3.trans ?_⟩
  refine congrArg (fun z => some (v, (SH0.take 682 ++ w.1, z))) ?_
  funext b i
  show mixS 682 w.2.1 s b i = mixS 682 w.2.1 σ' b i
  unfold mixS
  by_cases hb : b < 682
  · rw [if_pos hb, if_pos hb, h2 b hb]
  · rw [if_neg hb, if_neg hb]
theorem zq_vi {q j nj c : Nat} {as as' : List AV} {v : Option AV} {σ' : Sg} (pc' : Nat) (st' : List AV) (ho : zop m pc = some (.invokevirtual q, len)) (hl : zml (zM_o m) q = some j) (hp : pc + 3 = pc') (hq : cqz m j 1 nj c = true) (hn : Nat.ble nj st.length = true) (has : (st.take nj).reverse = as) (has' : as = .inr (.inr (some 0)) :: as') (ht : st.drop nj = t) (hs : Nat.ble (t.map avc).sum 8 = true) (hv : as.all (fun v => avc v == 1) = true) (hoc : zownCi (zM_o j) + 10 = 20) (hj : (cKb j && decide (rN j = j)) = true) (hA : clS 682 as) (hD : Dc j as w.2.2 (.inl v) σ') (hst : v.toList ++ t = st') (hr : c ≤ r) (H : Lg m pc' L st' (wS w σ') (r - c) o) : Lg m pc L st w r o := fun k n h1 h2 => by
  subst hst
  rw [Bool.and_eq_true, decide_eq_true_eq] at hj
  have h8 : zM_ms j ≤ 20 * c := by
    unfold cqz at hq
    simp only [Bool.and_eq_true, decide_eq_true_eq] at hq
    exact hq.2.2.2.2.2.2.2.2.1
  exact zRet_call ((zstep_op ho).trans (zcall_vi hl hp hq (by omega) (by omega) hn has has' ht hs hv hoc)) (zRet_of_Dc hj.1 hj.2 hA hD) (H (k + c) (n + zM_ms j) (by omega) (by omega))
theorem zq_viH {q j nj c E : Nat} {as as' : List AV} {v : Int} {σ' : Sg} (pc' : Nat) (ho : zop m pc = some (.invokevirtual q, len)) (hl : zml (zM_o m) q = some j) (hp : pc + 3 = pc') (hq : cqz m j 1 nj c = true) (hn : Nat.ble nj st.length = true) (has : (st.take nj).reverse = as) (has' : as = .inr (.inr (some 0)) :: as') (ht : st.drop nj = t) (hs : Nat.ble (t.map avc).sum 8 = true) (hv : as.all (fun v => avc v == 1) = true) (hoc : zownCi (zM_o j) + 10 = 20) (hj : (cKb j && decide (rN j = j)) = true) (hA : clS 682 as) (hD : Dc j as w.2.2 (.inr E) σ') (hh : zhnd m pc E = some v) (hi : inR v = true) (hr : c ≤ r) (H : o = (.inl (some (.inl v)), wS w σ')) : Lg m pc L st w r o := fun k n h1 h2 => by
  subst H
  rw [Bool.and_eq_true, decide_eq_true_eq] at hj
  refine zRet_callX ((zstep_op ho).trans (zcall_vi hl hp hq (by omega) (by omega) hn has has' ht hs hv hoc)) (zRet_of_Dc hj.1 hj.2 hA hD) ?_
  show zthrOf m pc E (hW (wS w σ')) = _
  unfold zthrOf
  rw [hh]
  dsimp only
  rw [if_pos hi]
theorem zq_lx {q j nj c : Nat} {as : List AV} {v : Option AV} {w' : WS} (pc' : Nat) (st' : List AV) (ho : zop m pc = some (.invokestatic q, len)) (hl : zml (zM_o m) q = some j) (hp : pc + 3 = pc') (hq : cqz m j 0 nj c = true) (hms : zM_ms j = 20 * c) (hn : Nat.ble nj st.length = true) (has : (st.take nj).reverse = as) (ht : st.drop nj = t) (hs : Nat.ble (t.map avc).sum 8 = true) (hv : as.all (fun v => avc v == 1) = true) (hD : Lx j as w (.inl v, w')) (hst : v.toList ++ t = st') (hr : c ≤ r) (H : Lg m pc' L st' w' (r - c) o) : Lg m pc L st w r o := fun k n h1 h2 => by
  subst hst
  have h8 : zM_mc j = c := by
    unfold cqz at hq
    simp only [Bool.and_eq_true, decide_eq_true_eq] at hq
    exact hq.2.2.2.2.2.2.2.1
  exact zRet_call ((zstep_op ho).trans (zcall_st hl hp hq (by omega) (by omega) hn has ht hs hv)) (hD 0 0 (by omega) (by omega)) (H (k + c) (n + zM_ms j) (by omega) (by omega))
theorem zq_iret (ho : zop m pc = some (.ireturn, len)) (hr : zM_ret m = some .int) (H : o = (.inl (some (.inl x)), w)) : Lg m pc L [.inl x] w r o := fun k n _ _ => by
  subst H
  refine zRet_out ((zstep_op ho).trans ?_)
  unfold zstepOp zsIret
  dsimp only
  rw [hr]
theorem zq_zret (ho : zop m pc = some (.ireturn, len)) (hr : zM_ret m = some .boolean) (hx : x = 0 ∨ x = 1) (H : o = (.inl (some (.inl x)), w)) : Lg m pc L [.inl x] w r o := fun k n _ _ => by
  subst H
  refine zRet_out ((zstep_op ho).trans ?_)
  unfold zstepOp zsIret
  dsimp only
  rw [hr]
  dsimp only
  rw [if_pos hx]
theorem zq_swI {d lo hi : Int} {offs : Array Int} (v : Int) (pc' : Nat) (ho : zop m pc = some (.tableswitch d lo hi offs, len)) (hs : zswI lo hi offs v pc pc' = true) (hv : x = v) (H : Lg m pc' L t w r o) : Lg m pc L (.inl x :: t) w r o := zq_st ho (fun k n => by
  subst hv
  unfold zswI at hs
  rw [Bool.and_eq_true, Bool.and_eq_true] at hs
  obtain ⟨h1, h2, h3⟩ := hs
  unfold zstepOp sSw
  dsimp only
  have e1 := of_decide_eq_true h1
  have e2 := of_decide_eq_true h2
  rw [if_neg (by omega)]
  split at h3
  · rename_i off hoff
    rw [hoff]
    dsimp only
    obtain ⟨j1, j2⟩ := jq_of h3
    unfold jmp
    rw [if_pos j1, j2]
  · cases h3) H
theorem zq_swD {d lo hi : Int} {offs : Array Int} (pc' : Nat) (ho : zop m pc = some (.tableswitch d lo hi offs, len)) (hj : jq pc pc' d = true) (hv : x < lo ∨ hi < x) (H : Lg m pc' L t w r o) : Lg m pc L (.inl x :: t) w r o := zq_st ho (fun k n => by
  unfold zstepOp sSw
  dsimp only
  rw [if_pos hv]
  obtain ⟨j1, j2⟩ := jq_of hj
  unfold jmp
  rw [if_pos j1, j2]) H
end
theorem Lx_of {j l r : Nat} {as : List AV} {w : WS} {o : Ro} (hL : zM_L j = l) (hr : zM_mc j = r) (H : Lg j 0 (as.map some ++ List.replicate (l - as.length) none) [] w r o) : Lx j as w o := by
  subst hL
  subst hr
  exact H
theorem clS_0 {as : List AV} (h : as.all (fun v => match v with
  | .inr (.inr (some a)) => decide (a < 682)
  | _ => true) = true) : clS 682 as := by
  intro v hv a e
  subst e
  exact of_decide_eq_true (List.all_eq_true.mp h _ hv)
end
