noncomputable section
/-! The law's own rules: its script, its switch, its calls with room that grows. -/
section
variable {m pc pc' len k n : Nat} {L : List (Option AV)} {st t : List AV} {σ : Sg} {o : Rs} {x y : Int} {a : Nat}
theorem g_scr (pc' : Nat) (ho : op m pc = some (.iaload, len)) (hp : pc + 1 = pc') (hi : 0 ≤ x ∧ x < σ (SCR + 1) 0) (H : Gd m pc' L (.inl (σ SCR x.toNat) :: t) σ k n o) : Gd m pc L (.inl x :: .inr (.inr (some SCR)) :: t) σ k n o := g_st ho (by
  subst hp
  unfold stepOp sIald
  dsimp only
  rw [if_pos rfl, if_pos hi]) H
theorem g_slen (pc' : Nat) (ho : op m pc = some (.arraylength, len)) (hp : pc + 1 = pc') (H : Gd m pc' L (.inl (σ (SCR + 1) 0) :: t) σ k n o) : Gd m pc L (.inr (.inr (some SCR)) :: t) σ k n o := g_st ho (by
  subst hp
  unfold stepOp sAlen
  dsimp only
  rw [if_pos rfl]) H
def swI (lo hi : Int) (offs : Array Int) (v : Int) (pc pc' : Nat) : Bool := decide (lo ≤ v) && (decide (v ≤ hi) && (match offs[(v - lo).toNat]? with
  | some off => jq pc pc' off
  | none => false))
theorem g_swI {d lo hi : Int} {offs : Array Int} (v : Int) (pc' : Nat) (ho : op m pc = some (.tableswitch d lo hi offs, len)) (hs : swI lo hi offs v pc pc' = true) (hv : x = v) (H : Gd m pc' L t σ k n o) : Gd m pc L (.inl x :: t) σ k n o := g_st ho (by
  subst hv
  unfold swI at hs
  rw [Bool.and_eq_true, Bool.and_eq_true] at hs
  obtain ⟨h1, h2, h3⟩ := hs
  unfold stepOp sSw
  dsimp only
  have e1 := of_decide_eq_true h1
  have e2 := of_decide_eq_true h2
  rw [if_neg (by omega)]
  split at h3
  · rename_i off hoff
    rw [hoff]
    dsimp only
    obtain ⟨j1, j2⟩ := jq_of h3
    unfold jmp
    rw [if_pos j1, j2]
  · cases h3) H
theorem g_swD {d lo hi : Int} {offs : Array Int} (pc' : Nat) (ho : op m pc = some (.tableswitch d lo hi offs, len)) (hj : jq pc pc' d = true) (hv : x < lo ∨ hi < x) (H : Gd m pc' L t σ k n o) : Gd m pc L (.inl x :: t) σ k n o := g_st ho (by
  unfold stepOp sSw
  dsimp only
  rw [if_pos hv]
  obtain ⟨j1, j2⟩ := jq_of hj
  unfold jmp
  rw [if_pos j1, j2]) H
/-- what is asked of the tables at a call of the law -/
def cqL (m j kd nj c s : Nat) : Bool := decide (¬ j = 1000) && (decide (¬ j = 1001) && (decide (¬ j = 1002) && (decide (kd = M_k j) && (decide (M_n j = nj) && (decide (M_f j + 1 ≤ M_f m) && (decide (8 + (M_L j + 11) + M_lo j ≤ M_lo m) && (decide (M_mc j = c) && (decide (M_ms j = s) && (decide (M_mc m = room_1.cells) && (decide (M_ms m = room_1.slots) && decide (nj ≤ M_L j)))))))))))
theorem call_stL {q j nj c s : Nat} {as : List AV} (hl : ml (M_o m) q = some j) (hp : pc + 3 = pc') (hq : cqL m j 0 nj c s = true) (hr : k + c ≤ room_1.cells ∧ n + s ≤ room_1.slots) (hn : Nat.ble nj st.length = true) (has : (st.take nj).reverse = as) (ht : st.drop nj = t) (hs : Nat.ble (t.map avc).sum 8 = true) (hv : as.all (fun v => avc v == 1) = true) : stepOp m (.invokestatic q) pc L st (SH0, σ) k n = some (.inr (.inl (j, as, (pc', L, t, (SH0, σ), k + c, n + s)))) := by
  unfold cqL at hq
  simp only [Bool.and_eq_true, decide_eq_true_eq] at hq
  obtain ⟨a1, a2, a3, a4, a5, a6, a7, a8, a9, b1, b2, b3⟩ := hq
  refine call_st' (nj := nj) hl hp ?_ hn has ht hs hv
  unfold cq
  simp only [Bool.and_eq_true, decide_eq_true_eq]
  exact ⟨a1, a2, a3, a4, a5, a6, a7, by rw [a8], by rw [a9], by omega, by omega, b3⟩
theorem call_viL {q j nj c s k9 : Nat} {as as' : List AV} (hl : ml (M_o m) q = some j) (hp : pc + 3 = pc') (hq : cqL m j 1 nj c s = true) (hr : k + c ≤ room_1.cells ∧ n + s ≤ room_1.slots) (hn : Nat.ble nj st.length = true) (has : (st.take nj).reverse = as) (has' : as = .inr (.inr (some a)) :: as') (ht : st.drop nj = t) (hs : Nat.ble (t.map avc).sum 8 = true) (hv : as.all (fun v => avc v == 1) = true) (ho : ownCi (M_o j) + 10 = k9) (hS : qC a k9 = true) : stepOp m (.invokevirtual q) pc L st (SH0, σ) k n = some (.inr (.inl (j, as, (pc', L, t, (SH0, σ), k + c, n + s)))) := by
  unfold cqL at hq
  simp only [Bool.and_eq_true, decide_eq_true_eq] at hq
  obtain ⟨a1, a2, a3, a4, a5, a6, a7, a8, a9, b1, b2, b3⟩ := hq
  refine call_vi' (nj := nj) hl hp ?_ hn has has' ht hs hv ho hS
  unfold cq
  simp only [Bool.and_eq_true, decide_eq_true_eq]
  exact ⟨a1, a2, a3, a4, a5, a6, a7, by rw [a8], by rw [a9], by omega, by omega, b3⟩
end
end
