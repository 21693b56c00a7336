/-! From the law's entry to its end. -/
noncomputable section
def lL0 : List (Option AV) := [some (vA SCR), none, none, none, none, none, none]
def sh0 : SH := (20, 0, [some none, some none, some none, none, some none, some none, some none, some none, some none, some none, some none, some none, some none])
theorem sx_new (σ : Sg) : zstep 0 (0, lL0, [], ([], σ), 0, 0) = some (.inl (3, lL0, [vA 0], ([sh0], σ), 1, 13)) := by
  rw [zstep_op (show zop 0 0 = some (.new 11, 3) by decide +kernel)]
  unfold zstepOp
  dsimp only
  rw [show zxt 0 0 = none by decide +kernel]
  dsimp only
  rw [show zcl (zM_o 0) 11 = some 10 by decide +kernel]
  unfold zsNew
  dsimp only
  rw [show zshT[10]? = some sh0.2.2 by decide +kernel]
  dsimp only
  rw [if_pos (by decide +kernel)]
  rfl
theorem sx_dup (σ : Sg) : zstep 0 (3, lL0, [vA 0], ([sh0], σ), 1, 13) = some (.inl (4, lL0, [vA 0, vA 0], ([sh0], σ), 1, 13)) := by
  rw [zstep_op (show zop 0 3 = some (.dup, 1) by decide +kernel)]
  rfl
theorem sx_call (σ : Sg) : zstep 0 (4, lL0, [vA 0, vA 0], ([sh0], σ), 1, 13) = some (.inr (.inl (171, [vA 0], (7, lL0, [vA 0], ([sh0], σ), 1 + zM_mc 171, 13 + zM_ms 171)))) := by
  rw [zstep_op (show zop 0 4 = some (.invokespecial 302, 3) by decide +kernel)]
  unfold zstepOp zsCall
  dsimp only
  rw [show zml (zM_o 0) 302 = some 171 by decide +kernel]
  dsimp only
  rw [if_neg (by decide), if_neg (by decide), if_neg (by decide), show zM_n 171 = 1 by decide +kernel, if_pos (by decide +kernel)]
  rfl
theorem sx_all (σ : Sg) {o : Out} (H : zRet 0 (7, lL0, [vA 0], (mkS 682 [], σ), 1 + zM_mc 171, 13 + zM_ms 171) o) : zRet 0 (0, lL0, [], ([], σ), 0, 0) o := by
  refine zRet_step (sx_new σ) (zRet_step (sx_dup σ) (zRet_call (v := none) (h := (mkS 682 [], σ)) (sx_call σ) ?_ H))
  obtain ⟨N, h⟩ := ct_2 σ
  refine ⟨N, ?_⟩
  have h2 := sim_run N 171 _ _ (by decide +kernel) h
  rw [show rN 171 = 171 by decide +kernel] at h2
  have e : zentryF 171 [vA 0] ([sh0], σ) = inS σ (0, [(some (.inr (.inr (some 0))))], [], (mkS 1 [(0, sh0)]), 0, 0) := by
    unfold zentryF
    rw [show zM_L 171 = 1 by decide +kernel, show mkS 1 [(0, sh0)] = [sh0] by decide +kernel]
    rfl
  show zrun N 171 (zentryF 171 [vA 0] ([sh0], σ)) = _
  rw [e]
  exact h2
theorem sig0_z {Ls : Nat} {scr : Nat → Int} {a k : Nat} (h : a < SCR) : sig0 Ls scr a k = 0 := by
  unfold sig0
  rw [if_neg (by omega), if_neg (by omega)]
theorem whole_run (Ls : Nat) (scr : Nat → Int) : ∃ (nf : Nat) (h' : HP), zrun nf 0 (zentryF 0 [.inr (.inr (some SCR))] ([], sig0 Ls scr)) = some (.inl (some (.inl 1)), h') := by
  have hs : SCR = 1000000000 := rfl
  obtain ⟨σ, hσ⟩ : ∃ σ, σ = sig0 Ls scr := ⟨_, rfl⟩
  have z : ∀ a k, a < SCR → σ a k = 0 := fun a k h => by rw [hσ]; exact sig0_z h
  have R0 : Rel 0 σ := by rw [hσ]; exact Rel_init Ls scr
  have L : LI 0 (wN ([], σ, σ) 12) := by
    refine ⟨rfl, Rel_sc (by decide) R0.1 (fun _ _ _ => rfl) R0, ?_, ?_, ?_, ?_, ?_, fun k hk => ?_, Or.inl ?_, fun a h1 h2 k => z a k h2, Nat.le_refl 1, ?_⟩
    · show σ 682 0 = σ 0 3
      rw [z _ _ (by omega), z _ _ (by omega)]
    · show σ 653 1 = 6 * σ 682 1
      rw [z _ _ (by omega), z _ _ (by omega)]; rfl
    · show σ 682 2 = σ 658 1
      rw [z _ _ (by omega), z _ _ (by omega)]
    · show σ 682 3 = σ 402 3
      rw [z _ _ (by omega), z _ _ (by omega)]
    · show σ 682 4 = σ 402 4
      rw [z _ _ (by omega), z _ _ (by omega)]
    · have : (k : Int) < σ 402 3 := hk
      rw [z _ _ (by omega)] at this
      omega
    · show σ 682 5 = 0
      exact z _ _ (by omega)
    · show σ 682 4 ≤ 0
      rw [z _ _ (by omega)]; decide
  obtain ⟨w', H⟩ := lall (Ls := Ls) (r := 239999) L (by show σ (SCR + 1) 0 = _; rw [hσ]; unfold sig0; rw [if_neg (by omega), if_pos ⟨rfl, rfl⟩]) (z _ _ (by omega)) (z _ _ (by omega)) (z _ _ (by omega)) (by decide)
  have K : Lg 0 7 lL0 [vA 0] ([], σ, σ) 240000 (rO 1 w') := by
    refine zq_astore_n (j := 1) 8 [some (vA SCR), some (vA 0), none, none, none, none, none] (show zop 0 7 = some (.astore_n 1, 1) by decide +kernel) rfl rfl rfl ?_
    refine zq_bipush 10 (show zop 0 8 = some (.bipush 12, 2) by decide +kernel) rfl (by decide) ?_
    refine zq_newarray 12 (l9 := 12) (show zop 0 10 = some (.newarray .int, 2) by decide +kernel) rfl (by decide) (by show 682 + 0 < SCR; omega) (by decide) ?_
    exact zq_astore_n (j := 2) 13 [some (vA SCR), some (vA 0), some (vA 682), none, none, none, none] (show zop 0 12 = some (.astore_n 2, 1) by decide +kernel) rfl rfl rfl H
  have e7 := K (1 + zM_mc 171) (13 + zM_ms 171) (by decide +kernel) (by decide +kernel)
  have eh : hW ([], σ, σ) = (mkS 682 [], σ) := by
    unfold hW
    have : mixS 682 σ σ = σ := by
      funext c k
      unfold mixS
      split <;> rfl
    dsimp only
    rw [this, List.append_nil]
    rfl
  rw [eh] at e7
  obtain ⟨N, h⟩ := sx_all σ e7
  refine ⟨N, hW w', ?_⟩
  rw [← hσ]
  have e0 : zentryF 0 [.inr (.inr (some SCR))] ([], σ) = (0, lL0, [], ([], σ), 0, 0) := by
    unfold zentryF
    rw [show zM_L 0 = 7 by decide +kernel]
    rfl
  rw [e0]
  exact h
end
