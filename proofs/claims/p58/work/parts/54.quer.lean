/-! Calls that only ask. -/
noncomputable section
theorem row_at {σ : Sg} {a A off : Nat} {n : Int} (h : rowEq σ a A off n) {i : Int} (hi : 0 ≤ i ∧ i < n) : atS σ a i = σ A (off + i.toNat) := by
  unfold atS
  rw [h.1, if_pos hi]
  exact h.2 i.toNat (by omega)
theorem row_out {σ : Sg} {a : Nat} {i : Int} (h : σ a 1 ≤ i) : atS σ a i = -1 := by
  unfold atS
  rw [if_neg (by omega)]
theorem op_q2 {w m : Nat} {aw am : List AV} {σ : Sg} {c v v2 : Int} (H : Rel c σ) (hA : Dd w aw σ (.inl (some (.inl 0)), upS σ 726 0 v)) (hB : Dd m am (upS σ 726 0 v) (.inl (some (.inl v2)), upS (upS σ 726 0 v) 682 0 0)) (hv : v2 = v) : OpR w m aw am σ (c + 1) := by
  subst hv
  exact op_q H hA hB
theorem Rel_up {c v : Int} {σ : Sg} (H : Rel c σ) : Rel c (upS σ 726 0 v) := Rel_0 (Int.le_refl c) (fun c k hc => by
  unfold upS
  rw [if_neg (by omega)]) H
theorem o3 {σ : Sg} {c a1 : Int} (H : Rel c σ) : OpR 393 260 [vA 0, vI a1, vA 726] [vA 682, vI a1] σ (c + 1) := by
  by_cases g1 : a1 < 0
  · exact x3_0 H g1
  by_cases g2 : 4 ≤ a1
  · exact x3_1 H g2
  have k1 : 0 ≤ a1 ∧ a1 < 4 := by omega
  refine op_q2 H (n3_0A H k1) (n3_0B (Rel_up H) k1) ?_
  rw [up_a (by decide)]
  exact (rel_t H k1).1.symm
theorem o4 {σ : Sg} {c a1 a2 : Int} (H : Rel c σ) : OpR 394 261 [vA 0, vI a1, vI a2, vA 726] [vA 682, vI a1, vI a2] σ (c + 1) := by
  by_cases g1 : a1 < 0
  · exact x4_0 H g1
  by_cases g2 : 4 ≤ a1
  · exact x4_1 H g2
  have k1 : 0 ≤ a1 ∧ a1 < 4 := by omega
  by_cases g3 : a2 < 0
  · exact x4_2 H k1 g3
  by_cases g4 : σ (2 + 2 * a1.toNat) 1 ≤ a2
  · exact x4_3 H k1 g4
  have k2 : 0 ≤ a2 ∧ a2 < σ (2 + 2 * a1.toNat) 1 := by omega
  refine op_q2 H (n4_1A H k1 k2) (n4_1B (Rel_up H) k1 (by rw [up_a (by omega)]; exact k2)) ?_
  rw [up_a (by decide), row_at (H.2.2.1 a1.toNat (by omega)).1 ⟨k2.1, by rw [← (rel_t H k1).1]; exact k2.2⟩]
  congr 1
  omega
theorem o49 {σ : Sg} {c a1 a2 : Int} (H : Rel c σ) : OpR 437 380 [vA 0, vI a1, vI a2, vA 726] [vA 682, vI a1, vI a2] σ (c + 1) := by
  by_cases g1 : a1 < 0
  · exact x49_0 H g1
  by_cases g2 : 4 ≤ a1
  · exact x49_1 H g2
  have k1 : 0 ≤ a1 ∧ a1 < 4 := by omega
  by_cases g3 : a2 < 0
  · exact x49_2 H k1 g3
  by_cases g4 : σ (11 + 2 * a1.toNat) 1 ≤ a2
  · refine op_q2 H (n49_12A H k1 ⟨by omega, g4⟩) (n49_12B (Rel_up H) k1 (by rw [up_a (by omega)]; exact ⟨by omega, g4⟩)) ?_
    rw [row_out g4]
  have k2 : 0 ≤ a2 ∧ a2 < σ (11 + 2 * a1.toNat) 1 := by omega
  refine op_q2 H (n49_11A H k1 k2) (n49_11B (Rel_up H) k1 (by rw [up_a (by omega)]; exact k2)) ?_
  rw [up_a (by decide), row_at (H.2.2.2.1 a1.toNat (by omega)).1 ⟨k2.1, by rw [← (rel_b H k1).1]; exact k2.2⟩]
  congr 1
  omega
theorem o16 {σ : Sg} {c a1 a2 a3 : Int} (H : Rel c σ) (hb : a2 = 0 ∨ a2 = 1) : OpR 405 307 [vA 0, vI a1, vI a2, vI a3, vA 726] [vA 682, vI a1, vI a2, vI a3] σ (c + 1) := by
  by_cases g1 : a1 < 0
  · exact x16_0 H g1
  by_cases g2 : σ 0 3 ≤ a1
  · exact x16_1 H g2
  have k1 : 0 ≤ a1 ∧ a1 < σ 0 3 := by omega
  by_cases g3 : a3 < 0
  · exact x16_2 H k1 g3
  obtain ⟨p1, p2, p3, p4, p5, p6⟩ := rel_p H k1
  have pr := (H.2.2.2.2.1.2.2.2 a1.toNat (by omega)).1
  have k1' : ∀ v : Int, 0 ≤ a1 ∧ a1 < (upS σ 726 0 v) 0 3 := fun v => by rw [up_a (by decide)]; exact k1
  rcases hb with hb | hb
  · by_cases g4 : σ 688 a1.toNat ≤ a3
    · refine op_q2 H (n16_3A H k1 hb ⟨by omega, g4⟩) (n16_3B (Rel_up H) (k1' _) hb ⟨by omega, by rw [up_a (by decide)]; exact g4⟩) ?_
      rw [row_out (by rw [p1]; exact g4)]
    · refine op_q2 H (n16_2A H k1 hb ⟨by omega, by omega⟩) (n16_2B (Rel_up H) (k1' _) hb ⟨by omega, by rw [up_a (by decide)]; omega⟩) ?_
      rw [up_a (by decide), row_at pr.1 ⟨by omega, by omega⟩]
      congr 1
      omega
  · by_cases g4 : σ 689 a1.toNat ≤ a3
    · refine op_q2 H (n16_5A H k1 hb ⟨by omega, g4⟩) (n16_5B (Rel_up H) (k1' _) hb ⟨by omega, by rw [up_a (by decide)]; exact g4⟩) ?_
      rw [row_out (by rw [p2]; exact g4)]
    · refine op_q2 H (n16_4A H k1 hb ⟨by omega, by omega⟩) (n16_4B (Rel_up H) (k1' _) hb ⟨by omega, by rw [up_a (by decide)]; omega⟩) ?_
      rw [up_a (by decide), row_at pr.2.1 ⟨by omega, by omega⟩]
      congr 1
      omega
theorem o17 {σ : Sg} {c a1 a2 : Int} (H : Rel c σ) : OpR 406 309 [vA 0, vI a1, vI a2, vA 726] [vA 682, vI a1, vI a2] σ (c + 1) := by
  by_cases g1 : a1 < 0
  · exact x17_0 H g1
  by_cases g2 : σ 0 3 ≤ a1
  · exact x17_1 H g2
  have k1 : 0 ≤ a1 ∧ a1 < σ 0 3 := by omega
  by_cases g3 : a2 < 0
  · exact x17_2 H k1 g3
  by_cases g4 : σ (20 + 13 * a1.toNat + 1) 1 ≤ a2
  · exact x17_3 H k1 g4
  obtain ⟨p1, p2, p3, p4, p5, p6⟩ := rel_p H k1
  have pr := (H.2.2.2.2.1.2.2.2 a1.toNat (by omega)).1
  have k2 : 0 ≤ a2 ∧ a2 < σ (20 + 13 * a1.toNat + 1) 1 := by omega
  refine op_q2 H (n17_6A H k1 k2) (n17_6B (Rel_up H) (by rw [up_a (by decide)]; exact k1) (by have := (rel_n H).1; rw [up_a (by omega)]; exact k2)) ?_
  rw [up_a (by decide), row_at pr.2.2 ⟨by omega, by omega⟩]
  congr 1
  omega
theorem o24 {σ : Sg} {c a1 : Int} (H : Rel c σ) : OpR 413 327 [vA 0, vI a1, vA 726] [vA 682, vI a1] σ (c + 1) := by
  by_cases g1 : a1 < 0
  · exact x24_0 H g1
  by_cases g2 : σ 393 1 ≤ a1
  · exact x24_1 H g2
  have k1 : 0 ≤ a1 ∧ a1 < σ 393 1 := by omega
  have hu := H.2.2.2.2.2.2.1.2 a1.toNat (by omega)
  have ha : atS σ 393 a1 = σ 394 a1.toNat := by
    unfold atS
    rw [if_pos k1]
  have k1' : ∀ v : Int, 0 ≤ a1 ∧ a1 < (upS σ 726 0 v) 393 1 := fun v => by rw [up_a (by decide)]; exact k1
  by_cases g3 : σ 706 a1.toNat = -1
  · refine op_q2 H (n24_7A H k1 g3) (n24_7B (Rel_up H) (k1' _) (by rw [up_a (by decide)]; exact g3)) ?_
    rw [ha]
    omega
  · refine op_q2 H (n24_8A H k1 g3) (n24_8B (Rel_up H) (k1' _) (by rw [up_a (by decide)]; exact g3)) ?_
    rw [up_a (by decide), up_a (by decide), ha]
    omega
theorem o37 {σ : Sg} {c a1 : Int} (H : Rel c σ) : OpR 425 354 [vA 0, vI a1, vA 726] [vA 682, vI a1] σ (c + 1) := by
  by_cases g1 : a1 < 0
  · exact x37_0 H g1
  by_cases g2 : σ 402 3 ≤ a1
  · exact x37_1 H g2
  have k1 : 0 ≤ a1 ∧ a1 < σ 402 3 := by omega
  refine op_q2 H (n37_9A H k1) (n37_9B (Rel_up H) (by rw [up_a (by decide)]; exact k1)) ?_
  rw [up_a (by decide), row_at H.2.2.2.2.2.1.2.2.2.2.2.2.1 k1]
  congr 1
  omega
theorem o46 {σ : Sg} {c a1 a2 : Int} (H : Rel c σ) : OpR 434 376 [vA 0, vI a1, vI a2, vA 726] [vA 682, vI a1, vI a2] σ (c + 1) := by
  by_cases g1 : a1 < 0
  · exact x46_0 H g1
  by_cases g2 : σ 682 53 ≤ a1
  · exact x46_1 H g2
  have k1 : 0 ≤ a1 ∧ a1 < σ 682 53 := by omega
  by_cases g3 : a2 < 0
  · exact x46_2 H k1 g3
  by_cases g4 : 6 ≤ a2
  · exact x46_3 H k1 g4
  have k2 : 0 ≤ a2 ∧ a2 < 6 := by omega
  refine op_q2 H (n46_10A H k1 k2) (n46_10B (Rel_up H) (by rw [up_a (by decide)]; exact k1) k2) ?_
  rw [up_a (by decide), row_at H.2.2.2.2.2.2.2.1.2.2.2.1 (i := a1 * 6 + a2) ⟨by omega, by omega⟩]
  congr 1
  omega
end
