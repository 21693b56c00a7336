noncomputable section
theorem lc0 {x4 kx b : Int} {d5 d6 : Option AV} {k n : Nat} {σ s1 s2 : Sg} {o : Rs} (hi : 0 ≤ x4 ∧ x4 + 5 < σ (SCR + 1) 0 ∧ σ (SCR + 1) 0 ≤ 3072) (hk : k + 4 ≤ room_1.cells ∧ n + 24 ≤ room_1.slots) (hw : Dd 390 [(.inr (.inr (some 0))), (.inl (σ SCR ((x4 + 1)).toNat)), (.inl (σ SCR ((x4 + 2)).toNat)), (.inl (σ SCR ((x4 + 3)).toNat)), (.inr (.inr (some 726)))] σ (.inl (some (.inl kx)), s1)) (hm : Dd 256 [(.inr (.inr (some 682))), (.inl (σ SCR ((x4 + 1)).toNat)), (.inl (σ SCR ((x4 + 2)).toNat)), (.inl (σ SCR ((x4 + 3)).toNat))] s1 (.inl (some (.inl b)), s2)) (h1 : ∀ i, s1 SCR i = σ SCR i) (h2 : s1 (SCR + 1) 0 = σ (SCR + 1) 0) (ht : s2 682 0 = kx) (hv : kx = 0 → s2 726 0 = b) (H : ∀ d5 d6, C0_3927 x4 d5 d6 (k + 4) (n + 24) s2 o) : C0_276 x4 d5 d6 k n σ o := by
  have h244 : Dd 244 [(.inr (.inr (some 682)))] s2 (.inl (some (.inl kx)), s2) := b244 (by rw [ht])
  refine b0_276 ?_
  refine ⟨by omega, ?_⟩
  refine ⟨by omega, ?_⟩
  refine ⟨by omega, ?_⟩
  refine ⟨by omega, ?_⟩
  refine ⟨by omega, ?_⟩
  refine ⟨by omega, ?_⟩
  refine ⟨by omega, ?_⟩
  refine ⟨_, _, hw, ?_⟩
  refine ⟨by omega, ?_⟩
  refine ⟨by omega, ?_⟩
  refine ⟨by omega, ?_⟩
  refine ⟨by omega, ?_⟩
  refine ⟨by omega, ?_⟩
  refine ⟨by omega, ?_⟩
  refine ⟨by omega, ?_⟩
  try simp only [h1]
  refine ⟨_, _, hm, ?_⟩
  refine ⟨by omega, ?_⟩
  refine ⟨_, _, h244, ?_⟩
  rw [if_pos rfl]
  by_cases h0 : kx = 0
  · rw [if_pos h0]
    rw [if_pos (by have e9 : s2 726 ((0 : Int).toNat) = b := hv h0; rw [e9, if_neg (by omega), if_pos rfl])]
    refine b0_353 ?_
    exact H _ _
  · rw [if_neg h0]
    refine b0_353 ?_
    exact H _ _
theorem lc1 {x4 kx b : Int} {d5 d6 : Option AV} {k n : Nat} {σ s1 s2 : Sg} {o : Rs} (hi : 0 ≤ x4 ∧ x4 + 5 < σ (SCR + 1) 0 ∧ σ (SCR + 1) 0 ≤ 3072) (hk : k + 2 ≤ room_1.cells ∧ n + 12 ≤ room_1.slots) (hw : Dd 391 [(.inr (.inr (some 0))), (.inl (σ SCR ((x4 + 1)).toNat)), (.inl (σ SCR ((x4 + 2)).toNat)), (.inr (.inr (some 726)))] σ (.inl (some (.inl kx)), s1)) (hm : Dd 258 [(.inr (.inr (some 682))), (.inl (σ SCR ((x4 + 1)).toNat)), (.inl (σ SCR ((x4 + 2)).toNat))] s1 (.inl (some (.inl b)), s2)) (h1 : ∀ i, s1 SCR i = σ SCR i) (h2 : s1 (SCR + 1) 0 = σ (SCR + 1) 0) (ht : s2 682 0 = kx) (hv : kx = 0 → s2 726 0 = b) (H : ∀ d5 d6, C0_3927 x4 d5 d6 (k + 2) (n + 12) s2 o) : C0_356 x4 d5 d6 k n σ o := by
  have h244 : Dd 244 [(.inr (.inr (some 682)))] s2 (.inl (some (.inl kx)), s2) := b244 (by rw [ht])
  refine b0_356 ?_
  refine ⟨by omega, ?_⟩
  refine ⟨by omega, ?_⟩
  refine ⟨by omega, ?_⟩
  refine ⟨by omega, ?_⟩
  refine ⟨by omega, ?_⟩
  refine ⟨_, _, hw, ?_⟩
  refine ⟨by omega, ?_⟩
  refine ⟨by omega, ?_⟩
  refine ⟨by omega, ?_⟩
  refine ⟨by omega, ?_⟩
  refine ⟨by omega, ?_⟩
  try simp only [h1]
  refine ⟨_, _, hm, ?_⟩
  refine ⟨by omega, ?_⟩
  refine ⟨_, _, h244, ?_⟩
  rw [if_pos rfl]
  by_cases h0 : kx = 0
  · rw [if_pos h0]
    rw [if_pos (by have e9 : s2 726 ((0 : Int).toNat) = b := hv h0; rw [e9, if_neg (by omega), if_pos rfl])]
    refine b0_421 ?_
    exact H _ _
  · rw [if_neg h0]
    refine b0_421 ?_
    exact H _ _
theorem lc2 {x4 kx b : Int} {d5 d6 : Option AV} {k n : Nat} {σ s1 s2 : Sg} {o : Rs} (hi : 0 ≤ x4 ∧ x4 + 5 < σ (SCR + 1) 0 ∧ σ (SCR + 1) 0 ≤ 3072) (hk : k + 2 ≤ room_1.cells ∧ n + 12 ≤ room_1.slots) (hw : Dd 392 [(.inr (.inr (some 0))), (.inl (σ SCR ((x4 + 1)).toNat)), (.inl (σ SCR ((x4 + 2)).toNat)), (.inr (.inr (some 726)))] σ (.inl (some (.inl kx)), s1)) (hm : Dd 259 [(.inr (.inr (some 682))), (.inl (σ SCR ((x4 + 1)).toNat)), (.inl (σ SCR ((x4 + 2)).toNat))] s1 (.inl (some (.inl b)), s2)) (h1 : ∀ i, s1 SCR i = σ SCR i) (h2 : s1 (SCR + 1) 0 = σ (SCR + 1) 0) (ht : s2 682 0 = kx) (hv : kx = 0 → s2 726 0 = b) (H : ∀ d5 d6, C0_3927 x4 d5 d6 (k + 2) (n + 12) s2 o) : C0_424 x4 d5 d6 k n σ o := by
  have h244 : Dd 244 [(.inr (.inr (some 682)))] s2 (.inl (some (.inl kx)), s2) := b244 (by rw [ht])
  refine b0_424 ?_
  refine ⟨by omega, ?_⟩
  refine ⟨by omega, ?_⟩
  refine ⟨by omega, ?_⟩
  refine ⟨by omega, ?_⟩
  refine ⟨by omega, ?_⟩
  refine ⟨_, _, hw, ?_⟩
  refine ⟨by omega, ?_⟩
  refine ⟨by omega, ?_⟩
  refine ⟨by omega, ?_⟩
  refine ⟨by omega, ?_⟩
  refine ⟨by omega, ?_⟩
  try simp only [h1]
  refine ⟨_, _, hm, ?_⟩
  refine ⟨by omega, ?_⟩
  refine ⟨_, _, h244, ?_⟩
  rw [if_pos rfl]
  by_cases h0 : kx = 0
  · rw [if_pos h0]
    rw [if_pos (by have e9 : s2 726 ((0 : Int).toNat) = b := hv h0; rw [e9, if_neg (by omega), if_pos rfl])]
    refine b0_489 ?_
    exact H _ _
  · rw [if_neg h0]
    refine b0_489 ?_
    exact H _ _
theorem lc3 {x4 kx b : Int} {d5 d6 : Option AV} {k n : Nat} {σ s1 s2 : Sg} {o : Rs} (hi : 0 ≤ x4 ∧ x4 + 5 < σ (SCR + 1) 0 ∧ σ (SCR + 1) 0 ≤ 3072) (hk : k + 1 ≤ room_1.cells ∧ n + 6 ≤ room_1.slots) (hw : Dd 393 [(.inr (.inr (some 0))), (.inl (σ SCR ((x4 + 1)).toNat)), (.inr (.inr (some 726)))] σ (.inl (some (.inl kx)), s1)) (hm : Dd 260 [(.inr (.inr (some 682))), (.inl (σ SCR ((x4 + 1)).toNat))] s1 (.inl (some (.inl b)), s2)) (h1 : ∀ i, s1 SCR i = σ SCR i) (h2 : s1 (SCR + 1) 0 = σ (SCR + 1) 0) (ht : s2 682 0 = kx) (hv : kx = 0 → s2 726 0 = b) (H : ∀ d5 d6, C0_3927 x4 d5 d6 (k + 1) (n + 6) s2 o) : C0_492 x4 d5 d6 k n σ o := by
  have h244 : Dd 244 [(.inr (.inr (some 682)))] s2 (.inl (some (.inl kx)), s2) := b244 (by rw [ht])
  refine b0_492 ?_
  refine ⟨by omega, ?_⟩
  refine ⟨by omega, ?_⟩
  refine ⟨by omega, ?_⟩
  refine ⟨_, _, hw, ?_⟩
  refine ⟨by omega, ?_⟩
  refine ⟨by omega, ?_⟩
  refine ⟨by omega, ?_⟩
  try simp only [h1]
  refine ⟨_, _, hm, ?_⟩
  refine ⟨by omega, ?_⟩
  refine ⟨_, _, h244, ?_⟩
  rw [if_pos rfl]
  by_cases h0 : kx = 0
  · rw [if_pos h0]
    rw [if_pos (by have e9 : s2 726 ((0 : Int).toNat) = b := hv h0; rw [e9, if_neg (by omega), if_pos rfl])]
    refine b0_545 ?_
    exact H _ _
  · rw [if_neg h0]
    refine b0_545 ?_
    exact H _ _
theorem lc4 {x4 kx b : Int} {d5 d6 : Option AV} {k n : Nat} {σ s1 s2 : Sg} {o : Rs} (hi : 0 ≤ x4 ∧ x4 + 5 < σ (SCR + 1) 0 ∧ σ (SCR + 1) 0 ≤ 3072) (hk : k + 2 ≤ room_1.cells ∧ n + 12 ≤ room_1.slots) (hw : Dd 394 [(.inr (.inr (some 0))), (.inl (σ SCR ((x4 + 1)).toNat)), (.inl (σ SCR ((x4 + 2)).toNat)), (.inr (.inr (some 726)))] σ (.inl (some (.inl kx)), s1)) (hm : Dd 261 [(.inr (.inr (some 682))), (.inl (σ SCR ((x4 + 1)).toNat)), (.inl (σ SCR ((x4 + 2)).toNat))] s1 (.inl (some (.inl b)), s2)) (h1 : ∀ i, s1 SCR i = σ SCR i) (h2 : s1 (SCR + 1) 0 = σ (SCR + 1) 0) (ht : s2 682 0 = kx) (hv : kx = 0 → s2 726 0 = b) (H : ∀ d5 d6, C0_3927 x4 d5 d6 (k + 2) (n + 12) s2 o) : C0_548 x4 d5 d6 k n σ o := by
  have h244 : Dd 244 [(.inr (.inr (some 682)))] s2 (.inl (some (.inl kx)), s2) := b244 (by rw [ht])
  refine b0_548 ?_
  refine ⟨by omega, ?_⟩
  refine ⟨by omega, ?_⟩
  refine ⟨by omega, ?_⟩
  refine ⟨by omega, ?_⟩
  refine ⟨by omega, ?_⟩
  refine ⟨_, _, hw, ?_⟩
  refine ⟨by omega, ?_⟩
  refine ⟨by omega, ?_⟩
  refine ⟨by omega, ?_⟩
  refine ⟨by omega, ?_⟩
  refine ⟨by omega, ?_⟩
  try simp only [h1]
  refine ⟨_, _, hm, ?_⟩
  refine ⟨by omega, ?_⟩
  refine ⟨_, _, h244, ?_⟩
  rw [if_pos rfl]
  by_cases h0 : kx = 0
  · rw [if_pos h0]
    rw [if_pos (by have e9 : s2 726 ((0 : Int).toNat) = b := hv h0; rw [e9, if_neg (by omega), if_pos rfl])]
    refine b0_613 ?_
    exact H _ _
  · rw [if_neg h0]
    refine b0_613 ?_
    exact H _ _
theorem lc5 {x4 kx b : Int} {d5 d6 : Option AV} {k n : Nat} {σ s1 s2 : Sg} {o : Rs} (hi : 0 ≤ x4 ∧ x4 + 5 < σ (SCR + 1) 0 ∧ σ (SCR + 1) 0 ≤ 3072) (hk : k + 2 ≤ room_1.cells ∧ n + 12 ≤ room_1.slots) (hw : Dd 395 [(.inr (.inr (some 0))), (.inl (σ SCR ((x4 + 1)).toNat)), (.inl (σ SCR ((x4 + 2)).toNat)), (.inr (.inr (some 726)))] σ (.inl (some (.inl kx)), s1)) (hm : Dd 262 [(.inr (.inr (some 682))), (.inl (σ SCR ((x4 + 1)).toNat)), (.inl (σ SCR ((x4 + 2)).toNat))] s1 (.inl (some (.inl b)), s2)) (h1 : ∀ i, s1 SCR i = σ SCR i) (h2 : s1 (SCR + 1) 0 = σ (SCR + 1) 0) (ht : s2 682 0 = kx) (hv : kx = 0 → s2 726 0 = b) (H : ∀ d5 d6, C0_3927 x4 d5 d6 (k + 2) (n + 12) s2 o) : C0_616 x4 d5 d6 k n σ o := by
  have h244 : Dd 244 [(.inr (.inr (some 682)))] s2 (.inl (some (.inl kx)), s2) := b244 (by rw [ht])
  refine b0_616 ?_
  refine ⟨by omega, ?_⟩
  refine ⟨by omega, ?_⟩
  refine ⟨by omega, ?_⟩
  refine ⟨by omega, ?_⟩
  refine ⟨by omega, ?_⟩
  refine ⟨_, _, hw, ?_⟩
  refine ⟨by omega, ?_⟩
  refine ⟨by omega, ?_⟩
  refine ⟨by omega, ?_⟩
  refine ⟨by omega, ?_⟩
  refine ⟨by omega, ?_⟩
  try simp only [h1]
  refine ⟨_, _, hm, ?_⟩
  refine ⟨by omega, ?_⟩
  refine ⟨_, _, h244, ?_⟩
  rw [if_pos rfl]
  by_cases h0 : kx = 0
  · rw [if_pos h0]
    rw [if_pos (by have e9 : s2 726 ((0 : Int).toNat) = b := hv h0; rw [e9, if_neg (by omega), if_pos rfl])]
    refine b0_681 ?_
    exact H _ _
  · rw [if_neg h0]
    refine b0_681 ?_
    exact H _ _
theorem lc6 {x4 kx b : Int} {d5 d6 : Option AV} {k n : Nat} {σ s1 s2 : Sg} {o : Rs} (hi : 0 ≤ x4 ∧ x4 + 5 < σ (SCR + 1) 0 ∧ σ (SCR + 1) 0 ≤ 3072) (hk : k + 4 ≤ room_1.cells ∧ n + 24 ≤ room_1.slots) (hw : Dd 396 [(.inr (.inr (some 0))), (.inl (σ SCR ((x4 + 1)).toNat)), (.inl (σ SCR ((x4 + 2)).toNat)), (.inl (σ SCR ((x4 + 3)).toNat)), (.inl (σ SCR ((x4 + 4)).toNat)), (.inr (.inr (some 726)))] σ (.inl (some (.inl kx)), s1)) (hm : Dd 277 [(.inr (.inr (some 682))), (.inl (σ SCR ((x4 + 1)).toNat)), (.inl (σ SCR ((x4 + 2)).toNat)), (.inl (σ SCR ((x4 + 3)).toNat)), (.inl (σ SCR ((x4 + 4)).toNat))] s1 (.inl (some (.inl b)), s2)) (h1 : ∀ i, s1 SCR i = σ SCR i) (h2 : s1 (SCR + 1) 0 = σ (SCR + 1) 0) (ht : s2 682 0 = kx) (hv : kx = 0 → s2 726 0 = b) (H : ∀ d5 d6, C0_3927 x4 d5 d6 (k + 4) (n + 24) s2 o) : C0_684 x4 d5 d6 k n σ o := by
  have h244 : Dd 244 [(.inr (.inr (some 682)))] s2 (.inl (some (.inl kx)), s2) := b244 (by rw [ht])
  refine b0_684 ?_
  refine ⟨by omega, ?_⟩
  refine ⟨by omega, ?_⟩
  refine ⟨by omega, ?_⟩
  refine ⟨by omega, ?_⟩
  refine ⟨by omega, ?_⟩
  refine ⟨by omega, ?_⟩
  refine ⟨by omega, ?_⟩
  refine ⟨by omega, ?_⟩
  refine ⟨by omega, ?_⟩
  refine ⟨_, _, hw, ?_⟩
  refine ⟨by omega, ?_⟩
  refine ⟨by omega, ?_⟩
  refine ⟨by omega, ?_⟩
  refine ⟨by omega, ?_⟩
  refine ⟨by omega, ?_⟩
  refine ⟨by omega, ?_⟩
  refine ⟨by omega, ?_⟩
  refine ⟨by omega, ?_⟩
  refine ⟨by omega, ?_⟩
  try simp only [h1]
  refine ⟨_, _, hm, ?_⟩
  refine ⟨by omega, ?_⟩
  refine ⟨_, _, h244, ?_⟩
  rw [if_pos rfl]
  by_cases h0 : kx = 0
  · rw [if_pos h0]
    rw [if_pos (by have e9 : s2 726 ((0 : Int).toNat) = b := hv h0; rw [e9, if_neg (by omega), if_pos rfl])]
    refine b0_773 ?_
    exact H _ _
  · rw [if_neg h0]
    refine b0_773 ?_
    exact H _ _
theorem lc7 {x4 kx b : Int} {d5 d6 : Option AV} {k n : Nat} {σ s1 s2 : Sg} {o : Rs} (hi : 0 ≤ x4 ∧ x4 + 5 < σ (SCR + 1) 0 ∧ σ (SCR + 1) 0 ≤ 3072) (hk : k + 3 ≤ room_1.cells ∧ n + 18 ≤ room_1.slots) (hw : Dd 397 [(.inr (.inr (some 0))), (.inl (σ SCR ((x4 + 1)).toNat)), (.inl (σ SCR ((x4 + 2)).toNat)), (.inl (σ SCR ((x4 + 3)).toNat)), (.inr (.inr (some 726)))] σ (.inl (some (.inl kx)), s1)) (hm : Dd 278 [(.inr (.inr (some 682))), (.inl (σ SCR ((x4 + 1)).toNat)), (.inl (σ SCR ((x4 + 2)).toNat)), (.inl (σ SCR ((x4 + 3)).toNat))] s1 (.inl (some (.inl b)), s2)) (h1 : ∀ i, s1 SCR i = σ SCR i) (h2 : s1 (SCR + 1) 0 = σ (SCR + 1) 0) (ht : s2 682 0 = kx) (hv : kx = 0 → s2 726 0 = b) (H : ∀ d5 d6, C0_3927 x4 d5 d6 (k + 3) (n + 18) s2 o) : C0_776 x4 d5 d6 k n σ o := by
  have h244 : Dd 244 [(.inr (.inr (some 682)))] s2 (.inl (some (.inl kx)), s2) := b244 (by rw [ht])
  refine b0_776 ?_
  refine ⟨by omega, ?_⟩
  refine ⟨by omega, ?_⟩
  refine ⟨by omega, ?_⟩
  refine ⟨by omega, ?_⟩
  refine ⟨by omega, ?_⟩
  refine ⟨by omega, ?_⟩
  refine ⟨by omega, ?_⟩
  refine ⟨_, _, hw, ?_⟩
  refine ⟨by omega, ?_⟩
  refine ⟨by omega, ?_⟩
  refine ⟨by omega, ?_⟩
  refine ⟨by omega, ?_⟩
  refine ⟨by omega, ?_⟩
  refine ⟨by omega, ?_⟩
  refine ⟨by omega, ?_⟩
  try simp only [h1]
  refine ⟨_, _, hm, ?_⟩
  refine ⟨by omega, ?_⟩
  refine ⟨_, _, h244, ?_⟩
  rw [if_pos rfl]
  by_cases h0 : kx = 0
  · rw [if_pos h0]
    rw [if_pos (by have e9 : s2 726 ((0 : Int).toNat) = b := hv h0; rw [e9, if_neg (by omega), if_pos rfl])]
    refine b0_853 ?_
    exact H _ _
  · rw [if_neg h0]
    refine b0_853 ?_
    exact H _ _
theorem lc8 {x4 kx b : Int} {d5 d6 : Option AV} {k n : Nat} {σ s1 s2 : Sg} {o : Rs} (hi : 0 ≤ x4 ∧ x4 + 5 < σ (SCR + 1) 0 ∧ σ (SCR + 1) 0 ≤ 3072) (hk : k + 2 ≤ room_1.cells ∧ n + 12 ≤ room_1.slots) (hw : Dd 398 [(.inr (.inr (some 0))), (.inl (σ SCR ((x4 + 1)).toNat)), (.inl (σ SCR ((x4 + 2)).toNat)), (.inr (.inr (some 726)))] σ (.inl (some (.inl kx)), s1)) (hm : Dd 279 [(.inr (.inr (some 682))), (.inl (σ SCR ((x4 + 1)).toNat)), (.inl (σ SCR ((x4 + 2)).toNat))] s1 (.inl (some (.inl b)), s2)) (h1 : ∀ i, s1 SCR i = σ SCR i) (h2 : s1 (SCR + 1) 0 = σ (SCR + 1) 0) (ht : s2 682 0 = kx) (hv : kx = 0 → s2 726 0 = b) (H : ∀ d5 d6, C0_3927 x4 d5 d6 (k + 2) (n + 12) s2 o) : C0_856 x4 d5 d6 k n σ o := by
  have h244 : Dd 244 [(.inr (.inr (some 682)))] s2 (.inl (some (.inl kx)), s2) := b244 (by rw [ht])
  refine b0_856 ?_
  refine ⟨by omega, ?_⟩
  refine ⟨by omega, ?_⟩
  refine ⟨by omega, ?_⟩
  refine ⟨by omega, ?_⟩
  refine ⟨by omega, ?_⟩
  refine ⟨_, _, hw, ?_⟩
  refine ⟨by omega, ?_⟩
  refine ⟨by omega, ?_⟩
  refine ⟨by omega, ?_⟩
  refine ⟨by omega, ?_⟩
  refine ⟨by omega, ?_⟩
  try simp only [h1]
  refine ⟨_, _, hm, ?_⟩
  refine ⟨by omega, ?_⟩
  refine ⟨_, _, h244, ?_⟩
  rw [if_pos rfl]
  by_cases h0 : kx = 0
  · rw [if_pos h0]
    rw [if_pos (by have e9 : s2 726 ((0 : Int).toNat) = b := hv h0; rw [e9, if_neg (by omega), if_pos rfl])]
    refine b0_921 ?_
    exact H _ _
  · rw [if_neg h0]
    refine b0_921 ?_
    exact H _ _
theorem lc9 {x4 kx b : Int} {d5 d6 : Option AV} {k n : Nat} {σ s1 s2 : Sg} {o : Rs} (hi : 0 ≤ x4 ∧ x4 + 5 < σ (SCR + 1) 0 ∧ σ (SCR + 1) 0 ≤ 3072) (hk : k + 4 ≤ room_1.cells ∧ n + 24 ≤ room_1.slots) (hw : Dd 399 [(.inr (.inr (some 0))), (.inl (σ SCR ((x4 + 1)).toNat)), (.inl (σ SCR ((x4 + 2)).toNat)), (.inl (σ SCR ((x4 + 3)).toNat)), (.inr (.inr (some 726)))] σ (.inl (some (.inl kx)), s1)) (hm : Dd 299 [(.inr (.inr (some 682))), (.inl (σ SCR ((x4 + 1)).toNat)), (.inl (σ SCR ((x4 + 2)).toNat)), (.inl (σ SCR ((x4 + 3)).toNat))] s1 (.inl (some (.inl b)), s2)) (h1 : ∀ i, s1 SCR i = σ SCR i) (h2 : s1 (SCR + 1) 0 = σ (SCR + 1) 0) (ht : s2 682 0 = kx) (hv : kx = 0 → s2 726 0 = b) (H : ∀ d5 d6, C0_3927 x4 d5 d6 (k + 4) (n + 24) s2 o) : C0_924 x4 d5 d6 k n σ o := by
  have h244 : Dd 244 [(.inr (.inr (some 682)))] s2 (.inl (some (.inl kx)), s2) := b244 (by rw [ht])
  refine b0_924 ?_
  refine ⟨by omega, ?_⟩
  refine ⟨by omega, ?_⟩
  refine ⟨by omega, ?_⟩
  refine ⟨by omega, ?_⟩
  refine ⟨by omega, ?_⟩
  refine ⟨by omega, ?_⟩
  refine ⟨by omega, ?_⟩
  refine ⟨_, _, hw, ?_⟩
  refine ⟨by omega, ?_⟩
  refine ⟨by omega, ?_⟩
  refine ⟨by omega, ?_⟩
  refine ⟨by omega, ?_⟩
  refine ⟨by omega, ?_⟩
  refine ⟨by omega, ?_⟩
  refine ⟨by omega, ?_⟩
  try simp only [h1]
  refine ⟨_, _, hm, ?_⟩
  refine ⟨by omega, ?_⟩
  refine ⟨_, _, h244, ?_⟩
  rw [if_pos rfl]
  by_cases h0 : kx = 0
  · rw [if_pos h0]
    rw [if_pos (by have e9 : s2 726 ((0 : Int).toNat) = b := hv h0; rw [e9, if_neg (by omega), if_pos rfl])]
    refine b0_1001 ?_
    exact H _ _
  · rw [if_neg h0]
    refine b0_1001 ?_
    exact H _ _
theorem lc10 {x4 kx b : Int} {d5 d6 : Option AV} {k n : Nat} {σ s1 s2 : Sg} {o : Rs} (hi : 0 ≤ x4 ∧ x4 + 5 < σ (SCR + 1) 0 ∧ σ (SCR + 1) 0 ≤ 3072) (hk : k + 2 ≤ room_1.cells ∧ n + 12 ≤ room_1.slots) (hw : Dd 400 [(.inr (.inr (some 0))), (.inl (σ SCR ((x4 + 1)).toNat)), (.inr (.inr (some 726)))] σ (.inl (some (.inl kx)), s1)) (hm : Dd 300 [(.inr (.inr (some 682))), (.inl (σ SCR ((x4 + 1)).toNat))] s1 (.inl (some (.inl b)), s2)) (h1 : ∀ i, s1 SCR i = σ SCR i) (h2 : s1 (SCR + 1) 0 = σ (SCR + 1) 0) (ht : s2 682 0 = kx) (hv : kx = 0 → s2 726 0 = b) (H : ∀ d5 d6, C0_3927 x4 d5 d6 (k + 2) (n + 12) s2 o) : C0_1004 x4 d5 d6 k n σ o := by
  have h244 : Dd 244 [(.inr (.inr (some 682)))] s2 (.inl (some (.inl kx)), s2) := b244 (by rw [ht])
  refine b0_1004 ?_
  refine ⟨by omega, ?_⟩
  refine ⟨by omega, ?_⟩
  refine ⟨by omega, ?_⟩
  refine ⟨_, _, hw, ?_⟩
  refine ⟨by omega, ?_⟩
  refine ⟨by omega, ?_⟩
  refine ⟨by omega, ?_⟩
  try simp only [h1]
  refine ⟨_, _, hm, ?_⟩
  refine ⟨by omega, ?_⟩
  refine ⟨_, _, h244, ?_⟩
  rw [if_pos rfl]
  by_cases h0 : kx = 0
  · rw [if_pos h0]
    rw [if_pos (by have e9 : s2 726 ((0 : Int).toNat) = b := hv h0; rw [e9, if_neg (by omega), if_pos rfl])]
    refine b0_1057 ?_
    exact H _ _
  · rw [if_neg h0]
    refine b0_1057 ?_
    exact H _ _
theorem lc11 {x4 kx b : Int} {d5 d6 : Option AV} {k n : Nat} {σ s1 s2 : Sg} {o : Rs} (hi : 0 ≤ x4 ∧ x4 + 5 < σ (SCR + 1) 0 ∧ σ (SCR + 1) 0 ≤ 3072) (hk : k + 4 ≤ room_1.cells ∧ n + 24 ≤ room_1.slots) (hw : Dd 401 [(.inr (.inr (some 0))), (.inl (σ SCR ((x4 + 1)).toNat)), (.inl (σ SCR ((x4 + 2)).toNat)), (.inr (.inr (some 726)))] σ (.inl (some (.inl kx)), s1)) (hm : Dd 301 [(.inr (.inr (some 682))), (.inl (σ SCR ((x4 + 1)).toNat)), (.inl (σ SCR ((x4 + 2)).toNat))] s1 (.inl (some (.inl b)), s2)) (h1 : ∀ i, s1 SCR i = σ SCR i) (h2 : s1 (SCR + 1) 0 = σ (SCR + 1) 0) (ht : s2 682 0 = kx) (hv : kx = 0 → s2 726 0 = b) (H : ∀ d5 d6, C0_3927 x4 d5 d6 (k + 4) (n + 24) s2 o) : C0_1060 x4 d5 d6 k n σ o := by
  have h244 : Dd 244 [(.inr (.inr (some 682)))] s2 (.inl (some (.inl kx)), s2) := b244 (by rw [ht])
  refine b0_1060 ?_
  refine ⟨by omega, ?_⟩
  refine ⟨by omega, ?_⟩
  refine ⟨by omega, ?_⟩
  refine ⟨by omega, ?_⟩
  refine ⟨by omega, ?_⟩
  refine ⟨_, _, hw, ?_⟩
  refine ⟨by omega, ?_⟩
  refine ⟨by omega, ?_⟩
  refine ⟨by omega, ?_⟩
  refine ⟨by omega, ?_⟩
  refine ⟨by omega, ?_⟩
  try simp only [h1]
  refine ⟨_, _, hm, ?_⟩
  refine ⟨by omega, ?_⟩
  refine ⟨_, _, h244, ?_⟩
  rw [if_pos rfl]
  by_cases h0 : kx = 0
  · rw [if_pos h0]
    rw [if_pos (by have e9 : s2 726 ((0 : Int).toNat) = b := hv h0; rw [e9, if_neg (by omega), if_pos rfl])]
    refine b0_1125 ?_
    exact H _ _
  · rw [if_neg h0]
    refine b0_1125 ?_
    exact H _ _
theorem lc12 {x4 kx b : Int} {d5 d6 : Option AV} {k n : Nat} {σ s1 s2 : Sg} {o : Rs} (hi : 0 ≤ x4 ∧ x4 + 5 < σ (SCR + 1) 0 ∧ σ (SCR + 1) 0 ≤ 3072) (hk : k + 3 ≤ room_1.cells ∧ n + 18 ≤ room_1.slots) (hw : Dd 402 [(.inr (.inr (some 0))), (.inl (σ SCR ((x4 + 1)).toNat)), (.inl (σ SCR ((x4 + 2)).toNat)), (.inr (.inr (some 726)))] σ (.inl (some (.inl kx)), s1)) (hm : Dd 302 [(.inr (.inr (some 682))), (.inl (σ SCR ((x4 + 1)).toNat)), (.inl (σ SCR ((x4 + 2)).toNat))] s1 (.inl (some (.inl b)), s2)) (h1 : ∀ i, s1 SCR i = σ SCR i) (h2 : s1 (SCR + 1) 0 = σ (SCR + 1) 0) (ht : s2 682 0 = kx) (hv : kx = 0 → s2 726 0 = (if b = 0 then 0 else 1)) (H : ∀ d5 d6, C0_3927 x4 d5 d6 (k + 3) (n + 18) s2 o) : C0_1128 x4 d5 d6 k n σ o := by
  have h244 : Dd 244 [(.inr (.inr (some 682)))] s2 (.inl (some (.inl kx)), s2) := b244 (by rw [ht])
  refine b0_1128 ?_
  refine ⟨by omega, ?_⟩
  refine ⟨by omega, ?_⟩
  refine ⟨by omega, ?_⟩
  refine ⟨by omega, ?_⟩
  refine ⟨by omega, ?_⟩
  refine ⟨_, _, hw, ?_⟩
  refine ⟨by omega, ?_⟩
  refine ⟨by omega, ?_⟩
  refine ⟨by omega, ?_⟩
  refine ⟨by omega, ?_⟩
  refine ⟨by omega, ?_⟩
  try simp only [h1]
  refine ⟨_, _, hm, ?_⟩
  refine ⟨by omega, ?_⟩
  refine ⟨_, _, h244, ?_⟩
  rw [if_pos rfl]
  by_cases h0 : kx = 0
  · rw [if_pos h0]
    refine b0_1194 ?_
    rw [if_pos (by have e9 : s2 726 ((0 : Int).toNat) = (if b = 0 then 0 else 1) := hv h0; rw [e9, if_neg (by omega), if_pos rfl])]
    refine b0_1200 ?_
    exact H _ _
  · rw [if_neg h0]
    refine b0_1200 ?_
    exact H _ _
theorem lc13 {x4 kx b : Int} {d5 d6 : Option AV} {k n : Nat} {σ s1 s2 : Sg} {o : Rs} (hi : 0 ≤ x4 ∧ x4 + 5 < σ (SCR + 1) 0 ∧ σ (SCR + 1) 0 ≤ 3072) (hk : k + 5 ≤ room_1.cells ∧ n + 30 ≤ room_1.slots) (hw : Dd 403 [(.inr (.inr (some 0))), (.inl (σ SCR ((x4 + 1)).toNat)), (.inl (σ SCR ((x4 + 2)).toNat)), (.inl (if (σ SCR ((x4 + 3)).toNat) = 0 then 0 else 1)), (.inr (.inr (some 726)))] σ (.inl (some (.inl kx)), s1)) (hm : Dd 303 [(.inr (.inr (some 682))), (.inl (σ SCR ((x4 + 1)).toNat)), (.inl (σ SCR ((x4 + 2)).toNat)), (.inl (if (σ SCR ((x4 + 3)).toNat) = 0 then 0 else 1))] s1 (.inl (some (.inl b)), s2)) (h1 : ∀ i, s1 SCR i = σ SCR i) (h2 : s1 (SCR + 1) 0 = σ (SCR + 1) 0) (ht : s2 682 0 = kx) (hv : kx = 0 → s2 726 0 = b) (H : ∀ d5 d6, C0_3927 x4 d5 d6 (k + 5) (n + 30) s2 o) : C0_1203 x4 d5 d6 k n σ o := by
  have h244 : Dd 244 [(.inr (.inr (some 682)))] s2 (.inl (some (.inl kx)), s2) := b244 (by rw [ht])
  refine b0_1203 ?_
  refine ⟨by omega, ?_⟩
  refine ⟨by omega, ?_⟩
  refine ⟨by omega, ?_⟩
  refine ⟨by omega, ?_⟩
  refine ⟨by omega, ?_⟩
  refine ⟨by omega, ?_⟩
  refine b0_1230 ?_
  refine ⟨by omega, ?_⟩
  refine ⟨_, _, hw, ?_⟩
  refine ⟨by omega, ?_⟩
  refine ⟨by omega, ?_⟩
  refine ⟨by omega, ?_⟩
  refine ⟨by omega, ?_⟩
  refine ⟨by omega, ?_⟩
  refine ⟨by omega, ?_⟩
  refine b0_1263 ?_
  refine ⟨by omega, ?_⟩
  try simp only [h1]
  refine ⟨_, _, hm, ?_⟩
  refine ⟨by omega, ?_⟩
  refine ⟨_, _, h244, ?_⟩
  rw [if_pos rfl]
  by_cases h0 : kx = 0
  · rw [if_pos h0]
    rw [if_pos (by have e9 : s2 726 ((0 : Int).toNat) = b := hv h0; rw [e9, if_neg (by omega), if_pos rfl])]
    refine b0_1296 ?_
    exact H _ _
  · rw [if_neg h0]
    refine b0_1296 ?_
    exact H _ _
theorem lc14 {x4 kx b : Int} {d5 d6 : Option AV} {k n : Nat} {σ s1 s2 : Sg} {o : Rs} (hi : 0 ≤ x4 ∧ x4 + 5 < σ (SCR + 1) 0 ∧ σ (SCR + 1) 0 ≤ 3072) (hk : k + 6 ≤ room_1.cells ∧ n + 36 ≤ room_1.slots) (hw : Dd 404 [(.inr (.inr (some 0))), (.inl (σ SCR ((x4 + 1)).toNat)), (.inl (σ SCR ((x4 + 2)).toNat)), (.inl (σ SCR ((x4 + 3)).toNat)), (.inl (σ SCR ((x4 + 4)).toNat)), (.inl (if (σ SCR ((x4 + 5)).toNat) = 0 then 0 else 1)), (.inr (.inr (some 726)))] σ (.inl (some (.inl kx)), s1)) (hm : Dd 305 [(.inr (.inr (some 682))), (.inl (σ SCR ((x4 + 1)).toNat)), (.inl (σ SCR ((x4 + 2)).toNat)), (.inl (σ SCR ((x4 + 3)).toNat)), (.inl (σ SCR ((x4 + 4)).toNat)), (.inl (if (σ SCR ((x4 + 5)).toNat) = 0 then 0 else 1))] s1 (.inl (some (.inl b)), s2)) (h1 : ∀ i, s1 SCR i = σ SCR i) (h2 : s1 (SCR + 1) 0 = σ (SCR + 1) 0) (ht : s2 682 0 = kx) (hv : kx = 0 → s2 726 0 = b) (H : ∀ d5 d6, C0_3927 x4 d5 d6 (k + 6) (n + 36) s2 o) : C0_1299 x4 d5 d6 k n σ o := by
  have h244 : Dd 244 [(.inr (.inr (some 682)))] s2 (.inl (some (.inl kx)), s2) := b244 (by rw [ht])
  refine b0_1299 ?_
  refine ⟨by omega, ?_⟩
  refine ⟨by omega, ?_⟩
  refine ⟨by omega, ?_⟩
  refine ⟨by omega, ?_⟩
  refine ⟨by omega, ?_⟩
  refine ⟨by omega, ?_⟩
  refine ⟨by omega, ?_⟩
  refine ⟨by omega, ?_⟩
  refine ⟨by omega, ?_⟩
  refine ⟨by omega, ?_⟩
  refine b0_1338 ?_
  refine ⟨by omega, ?_⟩
  refine ⟨_, _, hw, ?_⟩
  refine ⟨by omega, ?_⟩
  refine ⟨by omega, ?_⟩
  refine ⟨by omega, ?_⟩
  refine ⟨by omega, ?_⟩
  refine ⟨by omega, ?_⟩
  refine ⟨by omega, ?_⟩
  refine ⟨by omega, ?_⟩
  refine ⟨by omega, ?_⟩
  refine ⟨by omega, ?_⟩
  refine ⟨by omega, ?_⟩
  refine b0_1383 ?_
  refine ⟨by omega, ?_⟩
  try simp only [h1]
  refine ⟨_, _, hm, ?_⟩
  refine ⟨by omega, ?_⟩
  refine ⟨_, _, h244, ?_⟩
  rw [if_pos rfl]
  by_cases h0 : kx = 0
  · rw [if_pos h0]
    rw [if_pos (by have e9 : s2 726 ((0 : Int).toNat) = b := hv h0; rw [e9, if_neg (by omega), if_pos rfl])]
    refine b0_1416 ?_
    exact H _ _
  · rw [if_neg h0]
    refine b0_1416 ?_
    exact H _ _
theorem lc15 {x4 kx b : Int} {d5 d6 : Option AV} {k n : Nat} {σ s1 s2 : Sg} {o : Rs} (hi : 0 ≤ x4 ∧ x4 + 5 < σ (SCR + 1) 0 ∧ σ (SCR + 1) 0 ≤ 3072) (hk : k + 0 ≤ room_1.cells ∧ n + 0 ≤ room_1.slots) (hw : Dd 187 [(.inr (.inr (some 0)))] σ (.inl (some (.inl kx)), s1)) (hm : Dd 306 [(.inr (.inr (some 682)))] s1 (.inl (some (.inl b)), s2)) (h1 : ∀ i, s1 SCR i = σ SCR i) (h2 : s1 (SCR + 1) 0 = σ (SCR + 1) 0) (hv : kx = b) (H : ∀ d5 d6, C0_3927 x4 d5 d6 k n s2 o) : C0_1419 x4 d5 d6 k n σ o := by
  refine b0_1419 ?_
  refine ⟨by omega, ?_⟩
  refine ⟨_, _, hw, ?_⟩
  refine ⟨by omega, ?_⟩
  try simp only [h1]
  refine ⟨_, _, hm, ?_⟩
  rw [if_pos hv]
  exact H _ _
theorem lc16 {x4 kx b : Int} {d5 d6 : Option AV} {k n : Nat} {σ s1 s2 : Sg} {o : Rs} (hi : 0 ≤ x4 ∧ x4 + 5 < σ (SCR + 1) 0 ∧ σ (SCR + 1) 0 ≤ 3072) (hk : k + 2 ≤ room_1.cells ∧ n + 12 ≤ room_1.slots) (hw : Dd 405 [(.inr (.inr (some 0))), (.inl (σ SCR ((x4 + 1)).toNat)), (.inl (if (σ SCR ((x4 + 2)).toNat) = 0 then 0 else 1)), (.inl (σ SCR ((x4 + 3)).toNat)), (.inr (.inr (some 726)))] σ (.inl (some (.inl kx)), s1)) (hm : Dd 307 [(.inr (.inr (some 682))), (.inl (σ SCR ((x4 + 1)).toNat)), (.inl (if (σ SCR ((x4 + 2)).toNat) = 0 then 0 else 1)), (.inl (σ SCR ((x4 + 3)).toNat))] s1 (.inl (some (.inl b)), s2)) (h1 : ∀ i, s1 SCR i = σ SCR i) (h2 : s1 (SCR + 1) 0 = σ (SCR + 1) 0) (ht : s2 682 0 = kx) (hv : kx = 0 → s2 726 0 = b) (H : ∀ d5 d6, C0_3927 x4 d5 d6 (k + 2) (n + 12) s2 o) : C0_1432 x4 d5 d6 k n σ o := by
  have h244 : Dd 244 [(.inr (.inr (some 682)))] s2 (.inl (some (.inl kx)), s2) := b244 (by rw [ht])
  refine b0_1432 ?_
  refine ⟨by omega, ?_⟩
  refine ⟨by omega, ?_⟩
  refine ⟨by omega, ?_⟩
  refine ⟨by omega, ?_⟩
  refine b0_1453 ?_
  refine ⟨by omega, ?_⟩
  refine ⟨by omega, ?_⟩
  refine ⟨by omega, ?_⟩
  refine ⟨_, _, hw, ?_⟩
  refine ⟨by omega, ?_⟩
  refine ⟨by omega, ?_⟩
  refine ⟨by omega, ?_⟩
  refine ⟨by omega, ?_⟩
  refine b0_1486 ?_
  refine ⟨by omega, ?_⟩
  refine ⟨by omega, ?_⟩
  refine ⟨by omega, ?_⟩
  try simp only [h1]
  refine ⟨_, _, hm, ?_⟩
  refine ⟨by omega, ?_⟩
  refine ⟨_, _, h244, ?_⟩
  rw [if_pos rfl]
  by_cases h0 : kx = 0
  · rw [if_pos h0]
    rw [if_pos (by have e9 : s2 726 ((0 : Int).toNat) = b := hv h0; rw [e9, if_neg (by omega), if_pos rfl])]
    refine b0_1525 ?_
    exact H _ _
  · rw [if_neg h0]
    refine b0_1525 ?_
    exact H _ _
theorem lc17 {x4 kx b : Int} {d5 d6 : Option AV} {k n : Nat} {σ s1 s2 : Sg} {o : Rs} (hi : 0 ≤ x4 ∧ x4 + 5 < σ (SCR + 1) 0 ∧ σ (SCR + 1) 0 ≤ 3072) (hk : k + 2 ≤ room_1.cells ∧ n + 12 ≤ room_1.slots) (hw : Dd 406 [(.inr (.inr (some 0))), (.inl (σ SCR ((x4 + 1)).toNat)), (.inl (σ SCR ((x4 + 2)).toNat)), (.inr (.inr (some 726)))] σ (.inl (some (.inl kx)), s1)) (hm : Dd 309 [(.inr (.inr (some 682))), (.inl (σ SCR ((x4 + 1)).toNat)), (.inl (σ SCR ((x4 + 2)).toNat))] s1 (.inl (some (.inl b)), s2)) (h1 : ∀ i, s1 SCR i = σ SCR i) (h2 : s1 (SCR + 1) 0 = σ (SCR + 1) 0) (ht : s2 682 0 = kx) (hv : kx = 0 → s2 726 0 = b) (H : ∀ d5 d6, C0_3927 x4 d5 d6 (k + 2) (n + 12) s2 o) : C0_1528 x4 d5 d6 k n σ o := by
  have h244 : Dd 244 [(.inr (.inr (some 682)))] s2 (.inl (some (.inl kx)), s2) := b244 (by rw [ht])
  refine b0_1528 ?_
  refine ⟨by omega, ?_⟩
  refine ⟨by omega, ?_⟩
  refine ⟨by omega, ?_⟩
  refine ⟨by omega, ?_⟩
  refine ⟨by omega, ?_⟩
  refine ⟨_, _, hw, ?_⟩
  refine ⟨by omega, ?_⟩
  refine ⟨by omega, ?_⟩
  refine ⟨by omega, ?_⟩
  refine ⟨by omega, ?_⟩
  refine ⟨by omega, ?_⟩
  try simp only [h1]
  refine ⟨_, _, hm, ?_⟩
  refine ⟨by omega, ?_⟩
  refine ⟨_, _, h244, ?_⟩
  rw [if_pos rfl]
  by_cases h0 : kx = 0
  · rw [if_pos h0]
    rw [if_pos (by have e9 : s2 726 ((0 : Int).toNat) = b := hv h0; rw [e9, if_neg (by omega), if_pos rfl])]
    refine b0_1593 ?_
    exact H _ _
  · rw [if_neg h0]
    refine b0_1593 ?_
    exact H _ _
theorem lc18 {x4 kx b : Int} {d5 d6 : Option AV} {k n : Nat} {σ s1 s2 : Sg} {o : Rs} (hi : 0 ≤ x4 ∧ x4 + 5 < σ (SCR + 1) 0 ∧ σ (SCR + 1) 0 ≤ 3072) (hk : k + 1 ≤ room_1.cells ∧ n + 6 ≤ room_1.slots) (hw : Dd 407 [(.inr (.inr (some 0))), (.inl (σ SCR ((x4 + 1)).toNat)), (.inr (.inr (some 726)))] σ (.inl (some (.inl kx)), s1)) (hm : Dd 310 [(.inr (.inr (some 682))), (.inl (σ SCR ((x4 + 1)).toNat))] s1 (.inl (some (.inl b)), s2)) (h1 : ∀ i, s1 SCR i = σ SCR i) (h2 : s1 (SCR + 1) 0 = σ (SCR + 1) 0) (ht : s2 682 0 = kx) (hv : kx = 0 → s2 726 0 = b) (H : ∀ d5 d6, C0_3927 x4 d5 d6 (k + 1) (n + 6) s2 o) : C0_1596 x4 d5 d6 k n σ o := by
  have h244 : Dd 244 [(.inr (.inr (some 682)))] s2 (.inl (some (.inl kx)), s2) := b244 (by rw [ht])
  refine b0_1596 ?_
  refine ⟨by omega, ?_⟩
  refine ⟨by omega, ?_⟩
  refine ⟨by omega, ?_⟩
  refine ⟨_, _, hw, ?_⟩
  refine ⟨by omega, ?_⟩
  refine ⟨by omega, ?_⟩
  refine ⟨by omega, ?_⟩
  try simp only [h1]
  refine ⟨_, _, hm, ?_⟩
  refine ⟨by omega, ?_⟩
  refine ⟨_, _, h244, ?_⟩
  rw [if_pos rfl]
  by_cases h0 : kx = 0
  · rw [if_pos h0]
    rw [if_pos (by have e9 : s2 726 ((0 : Int).toNat) = b := hv h0; rw [e9, if_neg (by omega), if_pos rfl])]
    refine b0_1649 ?_
    exact H _ _
  · rw [if_neg h0]
    refine b0_1649 ?_
    exact H _ _
theorem lc19 {x4 kx b : Int} {d5 d6 : Option AV} {k n : Nat} {σ s1 s2 : Sg} {o : Rs} (hi : 0 ≤ x4 ∧ x4 + 5 < σ (SCR + 1) 0 ∧ σ (SCR + 1) 0 ≤ 3072) (hk : k + 3 ≤ room_1.cells ∧ n + 18 ≤ room_1.slots) (hw : Dd 408 [(.inr (.inr (some 0))), (.inl (σ SCR ((x4 + 1)).toNat)), (.inl (σ SCR ((x4 + 2)).toNat)), (.inl (σ SCR ((x4 + 3)).toNat)), (.inr (.inr (some 726)))] σ (.inl (some (.inl kx)), s1)) (hm : Dd 311 [(.inr (.inr (some 682))), (.inl (σ SCR ((x4 + 1)).toNat)), (.inl (σ SCR ((x4 + 2)).toNat)), (.inl (σ SCR ((x4 + 3)).toNat))] s1 (.inl (some (.inl b)), s2)) (h1 : ∀ i, s1 SCR i = σ SCR i) (h2 : s1 (SCR + 1) 0 = σ (SCR + 1) 0) (ht : s2 682 0 = kx) (hv : kx = 0 → s2 726 0 = b) (H : ∀ d5 d6, C0_3927 x4 d5 d6 (k + 3) (n + 18) s2 o) : C0_1652 x4 d5 d6 k n σ o := by
  have h244 : Dd 244 [(.inr (.inr (some 682)))] s2 (.inl (some (.inl kx)), s2) := b244 (by rw [ht])
  refine b0_1652 ?_
  refine ⟨by omega, ?_⟩
  refine ⟨by omega, ?_⟩
  refine ⟨by omega, ?_⟩
  refine ⟨by omega, ?_⟩
  refine ⟨by omega, ?_⟩
  refine ⟨by omega, ?_⟩
  refine ⟨by omega, ?_⟩
  refine ⟨_, _, hw, ?_⟩
  refine ⟨by omega, ?_⟩
  refine ⟨by omega, ?_⟩
  refine ⟨by omega, ?_⟩
  refine ⟨by omega, ?_⟩
  refine ⟨by omega, ?_⟩
  refine ⟨by omega, ?_⟩
  refine ⟨by omega, ?_⟩
  try simp only [h1]
  refine ⟨_, _, hm, ?_⟩
  refine ⟨by omega, ?_⟩
  refine ⟨_, _, h244, ?_⟩
  rw [if_pos rfl]
  by_cases h0 : kx = 0
  · rw [if_pos h0]
    rw [if_pos (by have e9 : s2 726 ((0 : Int).toNat) = b := hv h0; rw [e9, if_neg (by omega), if_pos rfl])]
    refine b0_1729 ?_
    exact H _ _
  · rw [if_neg h0]
    refine b0_1729 ?_
    exact H _ _
theorem lc20 {x4 kx b : Int} {d5 d6 : Option AV} {k n : Nat} {σ s1 s2 : Sg} {o : Rs} (hi : 0 ≤ x4 ∧ x4 + 5 < σ (SCR + 1) 0 ∧ σ (SCR + 1) 0 ≤ 3072) (hk : k + 2 ≤ room_1.cells ∧ n + 12 ≤ room_1.slots) (hw : Dd 409 [(.inr (.inr (some 0))), (.inl (σ SCR ((x4 + 1)).toNat)), (.inl (σ SCR ((x4 + 2)).toNat)), (.inr (.inr (some 726)))] σ (.inl (some (.inl kx)), s1)) (hm : Dd 316 [(.inr (.inr (some 682))), (.inl (σ SCR ((x4 + 1)).toNat)), (.inl (σ SCR ((x4 + 2)).toNat))] s1 (.inl (some (.inl b)), s2)) (h1 : ∀ i, s1 SCR i = σ SCR i) (h2 : s1 (SCR + 1) 0 = σ (SCR + 1) 0) (ht : s2 682 0 = kx) (hv : kx = 0 → s2 726 0 = b) (H : ∀ d5 d6, C0_3927 x4 d5 d6 (k + 2) (n + 12) s2 o) : C0_1732 x4 d5 d6 k n σ o := by
  have h244 : Dd 244 [(.inr (.inr (some 682)))] s2 (.inl (some (.inl kx)), s2) := b244 (by rw [ht])
  refine b0_1732 ?_
  refine ⟨by omega, ?_⟩
  refine ⟨by omega, ?_⟩
  refine ⟨by omega, ?_⟩
  refine ⟨by omega, ?_⟩
  refine ⟨by omega, ?_⟩
  refine ⟨_, _, hw, ?_⟩
  refine ⟨by omega, ?_⟩
  refine ⟨by omega, ?_⟩
  refine ⟨by omega, ?_⟩
  refine ⟨by omega, ?_⟩
  refine ⟨by omega, ?_⟩
  try simp only [h1]
  refine ⟨_, _, hm, ?_⟩
  refine ⟨by omega, ?_⟩
  refine ⟨_, _, h244, ?_⟩
  rw [if_pos rfl]
  by_cases h0 : kx = 0
  · rw [if_pos h0]
    rw [if_pos (by have e9 : s2 726 ((0 : Int).toNat) = b := hv h0; rw [e9, if_neg (by omega), if_pos rfl])]
    refine b0_1797 ?_
    exact H _ _
  · rw [if_neg h0]
    refine b0_1797 ?_
    exact H _ _
theorem lc21 {x4 kx b : Int} {d5 d6 : Option AV} {k n : Nat} {σ s1 s2 : Sg} {o : Rs} (hi : 0 ≤ x4 ∧ x4 + 5 < σ (SCR + 1) 0 ∧ σ (SCR + 1) 0 ≤ 3072) (hk : k + 2 ≤ room_1.cells ∧ n + 12 ≤ room_1.slots) (hw : Dd 410 [(.inr (.inr (some 0))), (.inl (σ SCR ((x4 + 1)).toNat)), (.inl (σ SCR ((x4 + 2)).toNat)), (.inr (.inr (some 726)))] σ (.inl (some (.inl kx)), s1)) (hm : Dd 317 [(.inr (.inr (some 682))), (.inl (σ SCR ((x4 + 1)).toNat)), (.inl (σ SCR ((x4 + 2)).toNat))] s1 (.inl (some (.inl b)), s2)) (h1 : ∀ i, s1 SCR i = σ SCR i) (h2 : s1 (SCR + 1) 0 = σ (SCR + 1) 0) (ht : s2 682 0 = kx) (hv : kx = 0 → s2 726 0 = (if b = 0 then 0 else 1)) (H : ∀ d5 d6, C0_3927 x4 d5 d6 (k + 2) (n + 12) s2 o) : C0_1800 x4 d5 d6 k n σ o := by
  have h244 : Dd 244 [(.inr (.inr (some 682)))] s2 (.inl (some (.inl kx)), s2) := b244 (by rw [ht])
  refine b0_1800 ?_
  refine ⟨by omega, ?_⟩
  refine ⟨by omega, ?_⟩
  refine ⟨by omega, ?_⟩
  refine ⟨by omega, ?_⟩
  refine ⟨by omega, ?_⟩
  refine ⟨_, _, hw, ?_⟩
  refine ⟨by omega, ?_⟩
  refine ⟨by omega, ?_⟩
  refine ⟨by omega, ?_⟩
  refine ⟨by omega, ?_⟩
  refine ⟨by omega, ?_⟩
  try simp only [h1]
  refine ⟨_, _, hm, ?_⟩
  refine ⟨by omega, ?_⟩
  refine ⟨_, _, h244, ?_⟩
  rw [if_pos rfl]
  by_cases h0 : kx = 0
  · rw [if_pos h0]
    refine b0_1866 ?_
    rw [if_pos (by have e9 : s2 726 ((0 : Int).toNat) = (if b = 0 then 0 else 1) := hv h0; rw [e9, if_neg (by omega), if_pos rfl])]
    refine b0_1872 ?_
    exact H _ _
  · rw [if_neg h0]
    refine b0_1872 ?_
    exact H _ _
theorem lc22 {x4 kx b : Int} {d5 d6 : Option AV} {k n : Nat} {σ s1 s2 : Sg} {o : Rs} (hi : 0 ≤ x4 ∧ x4 + 5 < σ (SCR + 1) 0 ∧ σ (SCR + 1) 0 ≤ 3072) (hk : k + 2 ≤ room_1.cells ∧ n + 12 ≤ room_1.slots) (hw : Dd 411 [(.inr (.inr (some 0))), (.inl (σ SCR ((x4 + 1)).toNat)), (.inl (σ SCR ((x4 + 2)).toNat)), (.inr (.inr (some 726)))] σ (.inl (some (.inl kx)), s1)) (hm : Dd 320 [(.inr (.inr (some 682))), (.inl (σ SCR ((x4 + 1)).toNat)), (.inl (σ SCR ((x4 + 2)).toNat))] s1 (.inl (some (.inl b)), s2)) (h1 : ∀ i, s1 SCR i = σ SCR i) (h2 : s1 (SCR + 1) 0 = σ (SCR + 1) 0) (ht : s2 682 0 = kx) (hv : kx = 0 → s2 726 0 = b) (H : ∀ d5 d6, C0_3927 x4 d5 d6 (k + 2) (n + 12) s2 o) : C0_1875 x4 d5 d6 k n σ o := by
  have h244 : Dd 244 [(.inr (.inr (some 682)))] s2 (.inl (some (.inl kx)), s2) := b244 (by rw [ht])
  refine b0_1875 ?_
  refine ⟨by omega, ?_⟩
  refine ⟨by omega, ?_⟩
  refine ⟨by omega, ?_⟩
  refine ⟨by omega, ?_⟩
  refine ⟨by omega, ?_⟩
  refine ⟨_, _, hw, ?_⟩
  refine ⟨by omega, ?_⟩
  refine ⟨by omega, ?_⟩
  refine ⟨by omega, ?_⟩
  refine ⟨by omega, ?_⟩
  refine ⟨by omega, ?_⟩
  try simp only [h1]
  refine ⟨_, _, hm, ?_⟩
  refine ⟨by omega, ?_⟩
  refine ⟨_, _, h244, ?_⟩
  rw [if_pos rfl]
  by_cases h0 : kx = 0
  · rw [if_pos h0]
    rw [if_pos (by have e9 : s2 726 ((0 : Int).toNat) = b := hv h0; rw [e9, if_neg (by omega), if_pos rfl])]
    refine b0_1940 ?_
    exact H _ _
  · rw [if_neg h0]
    refine b0_1940 ?_
    exact H _ _
theorem lc23 {x4 kx b : Int} {d5 d6 : Option AV} {k n : Nat} {σ s1 s2 : Sg} {o : Rs} (hi : 0 ≤ x4 ∧ x4 + 5 < σ (SCR + 1) 0 ∧ σ (SCR + 1) 0 ≤ 3072) (hk : k + 4 ≤ room_1.cells ∧ n + 24 ≤ room_1.slots) (hw : Dd 412 [(.inr (.inr (some 0))), (.inl (σ SCR ((x4 + 1)).toNat)), (.inl (σ SCR ((x4 + 2)).toNat)), (.inl (σ SCR ((x4 + 3)).toNat)), (.inr (.inr (some 726)))] σ (.inl (some (.inl kx)), s1)) (hm : Dd 326 [(.inr (.inr (some 682))), (.inl (σ SCR ((x4 + 1)).toNat)), (.inl (σ SCR ((x4 + 2)).toNat)), (.inl (σ SCR ((x4 + 3)).toNat))] s1 (.inl (some (.inl b)), s2)) (h1 : ∀ i, s1 SCR i = σ SCR i) (h2 : s1 (SCR + 1) 0 = σ (SCR + 1) 0) (ht : s2 682 0 = kx) (hv : kx = 0 → s2 726 0 = b) (H : ∀ d5 d6, C0_3927 x4 d5 d6 (k + 4) (n + 24) s2 o) : C0_1943 x4 d5 d6 k n σ o := by
  have h244 : Dd 244 [(.inr (.inr (some 682)))] s2 (.inl (some (.inl kx)), s2) := b244 (by rw [ht])
  refine b0_1943 ?_
  refine ⟨by omega, ?_⟩
  refine ⟨by omega, ?_⟩
  refine ⟨by omega, ?_⟩
  refine ⟨by omega, ?_⟩
  refine ⟨by omega, ?_⟩
  refine ⟨by omega, ?_⟩
  refine ⟨by omega, ?_⟩
  refine ⟨_, _, hw, ?_⟩
  refine ⟨by omega, ?_⟩
  refine ⟨by omega, ?_⟩
  refine ⟨by omega, ?_⟩
  refine ⟨by omega, ?_⟩
  refine ⟨by omega, ?_⟩
  refine ⟨by omega, ?_⟩
  refine ⟨by omega, ?_⟩
  try simp only [h1]
  refine ⟨_, _, hm, ?_⟩
  refine ⟨by omega, ?_⟩
  refine ⟨_, _, h244, ?_⟩
  rw [if_pos rfl]
  by_cases h0 : kx = 0
  · rw [if_pos h0]
    rw [if_pos (by have e9 : s2 726 ((0 : Int).toNat) = b := hv h0; rw [e9, if_neg (by omega), if_pos rfl])]
    refine b0_2020 ?_
    exact H _ _
  · rw [if_neg h0]
    refine b0_2020 ?_
    exact H _ _
theorem lc24 {x4 kx b : Int} {d5 d6 : Option AV} {k n : Nat} {σ s1 s2 : Sg} {o : Rs} (hi : 0 ≤ x4 ∧ x4 + 5 < σ (SCR + 1) 0 ∧ σ (SCR + 1) 0 ≤ 3072) (hk : k + 1 ≤ room_1.cells ∧ n + 6 ≤ room_1.slots) (hw : Dd 413 [(.inr (.inr (some 0))), (.inl (σ SCR ((x4 + 1)).toNat)), (.inr (.inr (some 726)))] σ (.inl (some (.inl kx)), s1)) (hm : Dd 327 [(.inr (.inr (some 682))), (.inl (σ SCR ((x4 + 1)).toNat))] s1 (.inl (some (.inl b)), s2)) (h1 : ∀ i, s1 SCR i = σ SCR i) (h2 : s1 (SCR + 1) 0 = σ (SCR + 1) 0) (ht : s2 682 0 = kx) (hv : kx = 0 → s2 726 0 = b) (H : ∀ d5 d6, C0_3927 x4 d5 d6 (k + 1) (n + 6) s2 o) : C0_2023 x4 d5 d6 k n σ o := by
  have h244 : Dd 244 [(.inr (.inr (some 682)))] s2 (.inl (some (.inl kx)), s2) := b244 (by rw [ht])
  refine b0_2023 ?_
  refine ⟨by omega, ?_⟩
  refine ⟨by omega, ?_⟩
  refine ⟨by omega, ?_⟩
  refine ⟨_, _, hw, ?_⟩
  refine ⟨by omega, ?_⟩
  refine ⟨by omega, ?_⟩
  refine ⟨by omega, ?_⟩
  try simp only [h1]
  refine ⟨_, _, hm, ?_⟩
  refine ⟨by omega, ?_⟩
  refine ⟨_, _, h244, ?_⟩
  rw [if_pos rfl]
  by_cases h0 : kx = 0
  · rw [if_pos h0]
    rw [if_pos (by have e9 : s2 726 ((0 : Int).toNat) = b := hv h0; rw [e9, if_neg (by omega), if_pos rfl])]
    refine b0_2076 ?_
    exact H _ _
  · rw [if_neg h0]
    refine b0_2076 ?_
    exact H _ _
theorem lc25 {x4 kx b : Int} {d5 d6 : Option AV} {k n : Nat} {σ s1 s2 : Sg} {o : Rs} (hi : 0 ≤ x4 ∧ x4 + 5 < σ (SCR + 1) 0 ∧ σ (SCR + 1) 0 ≤ 3072) (hk : k + 5 ≤ room_1.cells ∧ n + 30 ≤ room_1.slots) (hw : Dd 414 [(.inr (.inr (some 0))), (.inl (σ SCR ((x4 + 1)).toNat)), (.inl (σ SCR ((x4 + 2)).toNat)), (.inl (σ SCR ((x4 + 3)).toNat)), (.inr (.inr (some 726)))] σ (.inl (some (.inl kx)), s1)) (hm : Dd 333 [(.inr (.inr (some 682))), (.inl (σ SCR ((x4 + 1)).toNat)), (.inl (σ SCR ((x4 + 2)).toNat)), (.inl (σ SCR ((x4 + 3)).toNat))] s1 (.inl (some (.inl b)), s2)) (h1 : ∀ i, s1 SCR i = σ SCR i) (h2 : s1 (SCR + 1) 0 = σ (SCR + 1) 0) (ht : s2 682 0 = kx) (hv : kx = 0 → s2 726 0 = b) (H : ∀ d5 d6, C0_3927 x4 d5 d6 (k + 5) (n + 30) s2 o) : C0_2079 x4 d5 d6 k n σ o := by
  have h244 : Dd 244 [(.inr (.inr (some 682)))] s2 (.inl (some (.inl kx)), s2) := b244 (by rw [ht])
  refine b0_2079 ?_
  refine ⟨by omega, ?_⟩
  refine ⟨by omega, ?_⟩
  refine ⟨by omega, ?_⟩
  refine ⟨by omega, ?_⟩
  refine ⟨by omega, ?_⟩
  refine ⟨by omega, ?_⟩
  refine ⟨by omega, ?_⟩
  refine ⟨_, _, hw, ?_⟩
  refine ⟨by omega, ?_⟩
  refine ⟨by omega, ?_⟩
  refine ⟨by omega, ?_⟩
  refine ⟨by omega, ?_⟩
  refine ⟨by omega, ?_⟩
  refine ⟨by omega, ?_⟩
  refine ⟨by omega, ?_⟩
  try simp only [h1]
  refine ⟨_, _, hm, ?_⟩
  refine ⟨by omega, ?_⟩
  refine ⟨_, _, h244, ?_⟩
  rw [if_pos rfl]
  by_cases h0 : kx = 0
  · rw [if_pos h0]
    rw [if_pos (by have e9 : s2 726 ((0 : Int).toNat) = b := hv h0; rw [e9, if_neg (by omega), if_pos rfl])]
    refine b0_2156 ?_
    exact H _ _
  · rw [if_neg h0]
    refine b0_2156 ?_
    exact H _ _
theorem lc26 {x4 kx b : Int} {d5 d6 : Option AV} {k n : Nat} {σ s1 s2 : Sg} {o : Rs} (hi : 0 ≤ x4 ∧ x4 + 5 < σ (SCR + 1) 0 ∧ σ (SCR + 1) 0 ≤ 3072) (hk : k + 1 ≤ room_1.cells ∧ n + 6 ≤ room_1.slots) (hw : Dd 415 [(.inr (.inr (some 0))), (.inl (σ SCR ((x4 + 1)).toNat)), (.inr (.inr (some 726)))] σ (.inl (some (.inl kx)), s1)) (hm : Dd 338 [(.inr (.inr (some 682))), (.inl (σ SCR ((x4 + 1)).toNat))] s1 (.inl (some (.inl b)), s2)) (h1 : ∀ i, s1 SCR i = σ SCR i) (h2 : s1 (SCR + 1) 0 = σ (SCR + 1) 0) (ht : s2 682 0 = kx) (hv : kx = 0 → s2 726 0 = b) (H : ∀ d5 d6, C0_3927 x4 d5 d6 (k + 1) (n + 6) s2 o) : C0_2159 x4 d5 d6 k n σ o := by
  have h244 : Dd 244 [(.inr (.inr (some 682)))] s2 (.inl (some (.inl kx)), s2) := b244 (by rw [ht])
  refine b0_2159 ?_
  refine ⟨by omega, ?_⟩
  refine ⟨by omega, ?_⟩
  refine ⟨by omega, ?_⟩
  refine ⟨_, _, hw, ?_⟩
  refine ⟨by omega, ?_⟩
  refine ⟨by omega, ?_⟩
  refine ⟨by omega, ?_⟩
  try simp only [h1]
  refine ⟨_, _, hm, ?_⟩
  refine ⟨by omega, ?_⟩
  refine ⟨_, _, h244, ?_⟩
  rw [if_pos rfl]
  by_cases h0 : kx = 0
  · rw [if_pos h0]
    rw [if_pos (by have e9 : s2 726 ((0 : Int).toNat) = b := hv h0; rw [e9, if_neg (by omega), if_pos rfl])]
    refine b0_2212 ?_
    exact H _ _
  · rw [if_neg h0]
    refine b0_2212 ?_
    exact H _ _
theorem lc27 {x4 kx b : Int} {d5 d6 : Option AV} {k n : Nat} {σ s1 s2 : Sg} {o : Rs} (hi : 0 ≤ x4 ∧ x4 + 5 < σ (SCR + 1) 0 ∧ σ (SCR + 1) 0 ≤ 3072) (hk : k + 3 ≤ room_1.cells ∧ n + 18 ≤ room_1.slots) (hw : Dd 416 [(.inr (.inr (some 0))), (.inl (σ SCR ((x4 + 1)).toNat)), (.inl (σ SCR ((x4 + 2)).toNat)), (.inl (σ SCR ((x4 + 3)).toNat)), (.inr (.inr (some 726)))] σ (.inl (some (.inl kx)), s1)) (hm : Dd 339 [(.inr (.inr (some 682))), (.inl (σ SCR ((x4 + 1)).toNat)), (.inl (σ SCR ((x4 + 2)).toNat)), (.inl (σ SCR ((x4 + 3)).toNat))] s1 (.inl (some (.inl b)), s2)) (h1 : ∀ i, s1 SCR i = σ SCR i) (h2 : s1 (SCR + 1) 0 = σ (SCR + 1) 0) (ht : s2 682 0 = kx) (hv : kx = 0 → s2 726 0 = b) (H : ∀ d5 d6, C0_3927 x4 d5 d6 (k + 3) (n + 18) s2 o) : C0_2215 x4 d5 d6 k n σ o := by
  have h244 : Dd 244 [(.inr (.inr (some 682)))] s2 (.inl (some (.inl kx)), s2) := b244 (by rw [ht])
  refine b0_2215 ?_
  refine ⟨by omega, ?_⟩
  refine ⟨by omega, ?_⟩
  refine ⟨by omega, ?_⟩
  refine ⟨by omega, ?_⟩
  refine ⟨by omega, ?_⟩
  refine ⟨by omega, ?_⟩
  refine ⟨by omega, ?_⟩
  refine ⟨_, _, hw, ?_⟩
  refine ⟨by omega, ?_⟩
  refine ⟨by omega, ?_⟩
  refine ⟨by omega, ?_⟩
  refine ⟨by omega, ?_⟩
  refine ⟨by omega, ?_⟩
  refine ⟨by omega, ?_⟩
  refine ⟨by omega, ?_⟩
  try simp only [h1]
  refine ⟨_, _, hm, ?_⟩
  refine ⟨by omega, ?_⟩
  refine ⟨_, _, h244, ?_⟩
  rw [if_pos rfl]
  by_cases h0 : kx = 0
  · rw [if_pos h0]
    rw [if_pos (by have e9 : s2 726 ((0 : Int).toNat) = b := hv h0; rw [e9, if_neg (by omega), if_pos rfl])]
    refine b0_2292 ?_
    exact H _ _
  · rw [if_neg h0]
    refine b0_2292 ?_
    exact H _ _
theorem lc28 {x4 kx b : Int} {d5 d6 : Option AV} {k n : Nat} {σ s1 s2 : Sg} {o : Rs} (hi : 0 ≤ x4 ∧ x4 + 5 < σ (SCR + 1) 0 ∧ σ (SCR + 1) 0 ≤ 3072) (hk : k + 2 ≤ room_1.cells ∧ n + 12 ≤ room_1.slots) (hw : Dd 417 [(.inr (.inr (some 0))), (.inl (σ SCR ((x4 + 1)).toNat)), (.inr (.inr (some 726)))] σ (.inl (some (.inl kx)), s1)) (hm : Dd 343 [(.inr (.inr (some 682))), (.inl (σ SCR ((x4 + 1)).toNat))] s1 (.inl (some (.inl b)), s2)) (h1 : ∀ i, s1 SCR i = σ SCR i) (h2 : s1 (SCR + 1) 0 = σ (SCR + 1) 0) (ht : s2 682 0 = kx) (hv : kx = 0 → s2 726 0 = b) (H : ∀ d5 d6, C0_3927 x4 d5 d6 (k + 2) (n + 12) s2 o) : C0_2295 x4 d5 d6 k n σ o := by
  have h244 : Dd 244 [(.inr (.inr (some 682)))] s2 (.inl (some (.inl kx)), s2) := b244 (by rw [ht])
  refine b0_2295 ?_
  refine ⟨by omega, ?_⟩
  refine ⟨by omega, ?_⟩
  refine ⟨by omega, ?_⟩
  refine ⟨_, _, hw, ?_⟩
  refine ⟨by omega, ?_⟩
  refine ⟨by omega, ?_⟩
  refine ⟨by omega, ?_⟩
  try simp only [h1]
  refine ⟨_, _, hm, ?_⟩
  refine ⟨by omega, ?_⟩
  refine ⟨_, _, h244, ?_⟩
  rw [if_pos rfl]
  by_cases h0 : kx = 0
  · rw [if_pos h0]
    rw [if_pos (by have e9 : s2 726 ((0 : Int).toNat) = b := hv h0; rw [e9, if_neg (by omega), if_pos rfl])]
    refine b0_2348 ?_
    exact H _ _
  · rw [if_neg h0]
    refine b0_2348 ?_
    exact H _ _
theorem lc29 {x4 kx b : Int} {d5 d6 : Option AV} {k n : Nat} {σ s1 s2 : Sg} {o : Rs} (hi : 0 ≤ x4 ∧ x4 + 5 < σ (SCR + 1) 0 ∧ σ (SCR + 1) 0 ≤ 3072) (hk : k + 3 ≤ room_1.cells ∧ n + 18 ≤ room_1.slots) (hw : Dd 418 [(.inr (.inr (some 0))), (.inl (σ SCR ((x4 + 1)).toNat)), (.inr (.inr (some 726)))] σ (.inl (some (.inl kx)), s1)) (hm : Dd 345 [(.inr (.inr (some 682))), (.inl (σ SCR ((x4 + 1)).toNat))] s1 (.inl (some (.inl b)), s2)) (h1 : ∀ i, s1 SCR i = σ SCR i) (h2 : s1 (SCR + 1) 0 = σ (SCR + 1) 0) (ht : s2 682 0 = kx) (hv : kx = 0 → s2 726 0 = b) (H : ∀ d5 d6, C0_3927 x4 d5 d6 (k + 3) (n + 18) s2 o) : C0_2351 x4 d5 d6 k n σ o := by
  have h244 : Dd 244 [(.inr (.inr (some 682)))] s2 (.inl (some (.inl kx)), s2) := b244 (by rw [ht])
  refine b0_2351 ?_
  refine ⟨by omega, ?_⟩
  refine ⟨by omega, ?_⟩
  refine ⟨by omega, ?_⟩
  refine ⟨_, _, hw, ?_⟩
  refine ⟨by omega, ?_⟩
  refine ⟨by omega, ?_⟩
  refine ⟨by omega, ?_⟩
  try simp only [h1]
  refine ⟨_, _, hm, ?_⟩
  refine ⟨by omega, ?_⟩
  refine ⟨_, _, h244, ?_⟩
  rw [if_pos rfl]
  by_cases h0 : kx = 0
  · rw [if_pos h0]
    rw [if_pos (by have e9 : s2 726 ((0 : Int).toNat) = b := hv h0; rw [e9, if_neg (by omega), if_pos rfl])]
    refine b0_2404 ?_
    exact H _ _
  · rw [if_neg h0]
    refine b0_2404 ?_
    exact H _ _
theorem lc30 {x4 kx b : Int} {d5 d6 : Option AV} {k n : Nat} {σ s1 s2 : Sg} {o : Rs} (hi : 0 ≤ x4 ∧ x4 + 5 < σ (SCR + 1) 0 ∧ σ (SCR + 1) 0 ≤ 3072) (hk : k + 1 ≤ room_1.cells ∧ n + 6 ≤ room_1.slots) (hw : Dd 419 [(.inr (.inr (some 0))), (.inr (.inr (some 726)))] σ (.inl (some (.inl kx)), s1)) (hm : Dd 346 [(.inr (.inr (some 682)))] s1 (.inl (some (.inl b)), s2)) (h1 : ∀ i, s1 SCR i = σ SCR i) (h2 : s1 (SCR + 1) 0 = σ (SCR + 1) 0) (ht : s2 682 0 = kx) (hv : kx = 0 → s2 726 0 = b) (H : ∀ d5 d6, C0_3927 x4 d5 d6 (k + 1) (n + 6) s2 o) : C0_2407 x4 d5 d6 k n σ o := by
  have h244 : Dd 244 [(.inr (.inr (some 682)))] s2 (.inl (some (.inl kx)), s2) := b244 (by rw [ht])
  refine b0_2407 ?_
  refine ⟨by omega, ?_⟩
  refine ⟨_, _, hw, ?_⟩
  refine ⟨by omega, ?_⟩
  try simp only [h1]
  refine ⟨_, _, hm, ?_⟩
  refine ⟨by omega, ?_⟩
  refine ⟨_, _, h244, ?_⟩
  rw [if_pos rfl]
  by_cases h0 : kx = 0
  · rw [if_pos h0]
    rw [if_pos (by have e9 : s2 726 ((0 : Int).toNat) = b := hv h0; rw [e9, if_neg (by omega), if_pos rfl])]
    refine b0_2448 ?_
    exact H _ _
  · rw [if_neg h0]
    refine b0_2448 ?_
    exact H _ _
theorem lc31 {x4 kx b : Int} {d5 d6 : Option AV} {k n : Nat} {σ s1 s2 : Sg} {o : Rs} (hi : 0 ≤ x4 ∧ x4 + 5 < σ (SCR + 1) 0 ∧ σ (SCR + 1) 0 ≤ 3072) (hk : k + 2 ≤ room_1.cells ∧ n + 12 ≤ room_1.slots) (hw : Dd 420 [(.inr (.inr (some 0))), (.inl (σ SCR ((x4 + 1)).toNat)), (.inr (.inr (some 726)))] σ (.inl (some (.inl kx)), s1)) (hm : Dd 347 [(.inr (.inr (some 682))), (.inl (σ SCR ((x4 + 1)).toNat))] s1 (.inl (some (.inl b)), s2)) (h1 : ∀ i, s1 SCR i = σ SCR i) (h2 : s1 (SCR + 1) 0 = σ (SCR + 1) 0) (ht : s2 682 0 = kx) (hv : kx = 0 → s2 726 0 = b) (H : ∀ d5 d6, C0_3927 x4 d5 d6 (k + 2) (n + 12) s2 o) : C0_2451 x4 d5 d6 k n σ o := by
  have h244 : Dd 244 [(.inr (.inr (some 682)))] s2 (.inl (some (.inl kx)), s2) := b244 (by rw [ht])
  refine b0_2451 ?_
  refine ⟨by omega, ?_⟩
  refine ⟨by omega, ?_⟩
  refine ⟨by omega, ?_⟩
  refine ⟨_, _, hw, ?_⟩
  refine ⟨by omega, ?_⟩
  refine ⟨by omega, ?_⟩
  refine ⟨by omega, ?_⟩
  try simp only [h1]
  refine ⟨_, _, hm, ?_⟩
  refine ⟨by omega, ?_⟩
  refine ⟨_, _, h244, ?_⟩
  rw [if_pos rfl]
  by_cases h0 : kx = 0
  · rw [if_pos h0]
    rw [if_pos (by have e9 : s2 726 ((0 : Int).toNat) = b := hv h0; rw [e9, if_neg (by omega), if_pos rfl])]
    refine b0_2504 ?_
    exact H _ _
  · rw [if_neg h0]
    refine b0_2504 ?_
    exact H _ _
theorem lc32 {x4 kx b : Int} {d5 d6 : Option AV} {k n : Nat} {σ s1 s2 : Sg} {o : Rs} (hi : 0 ≤ x4 ∧ x4 + 5 < σ (SCR + 1) 0 ∧ σ (SCR + 1) 0 ≤ 3072) (hk : k + 2 ≤ room_1.cells ∧ n + 12 ≤ room_1.slots) (hw : Dd 421 [(.inr (.inr (some 0))), (.inl (σ SCR ((x4 + 1)).toNat)), (.inr (.inr (some 726)))] σ (.inl (some (.inl kx)), s1)) (hm : Dd 348 [(.inr (.inr (some 682))), (.inl (σ SCR ((x4 + 1)).toNat))] s1 (.inl (some (.inl b)), s2)) (h1 : ∀ i, s1 SCR i = σ SCR i) (h2 : s1 (SCR + 1) 0 = σ (SCR + 1) 0) (ht : s2 682 0 = kx) (hv : kx = 0 → s2 726 0 = b) (H : ∀ d5 d6, C0_3927 x4 d5 d6 (k + 2) (n + 12) s2 o) : C0_2507 x4 d5 d6 k n σ o := by
  have h244 : Dd 244 [(.inr (.inr (some 682)))] s2 (.inl (some (.inl kx)), s2) := b244 (by rw [ht])
  refine b0_2507 ?_
  refine ⟨by omega, ?_⟩
  refine ⟨by omega, ?_⟩
  refine ⟨by omega, ?_⟩
  refine ⟨_, _, hw, ?_⟩
  refine ⟨by omega, ?_⟩
  refine ⟨by omega, ?_⟩
  refine ⟨by omega, ?_⟩
  try simp only [h1]
  refine ⟨_, _, hm, ?_⟩
  refine ⟨by omega, ?_⟩
  refine ⟨_, _, h244, ?_⟩
  rw [if_pos rfl]
  by_cases h0 : kx = 0
  · rw [if_pos h0]
    rw [if_pos (by have e9 : s2 726 ((0 : Int).toNat) = b := hv h0; rw [e9, if_neg (by omega), if_pos rfl])]
    refine b0_2560 ?_
    exact H _ _
  · rw [if_neg h0]
    refine b0_2560 ?_
    exact H _ _
theorem lc33 {x4 kx b : Int} {d5 d6 : Option AV} {k n : Nat} {σ s1 s2 : Sg} {o : Rs} (hi : 0 ≤ x4 ∧ x4 + 5 < σ (SCR + 1) 0 ∧ σ (SCR + 1) 0 ≤ 3072) (hk : k + 2 ≤ room_1.cells ∧ n + 12 ≤ room_1.slots) (hw : Dd 422 [(.inr (.inr (some 0))), (.inl (σ SCR ((x4 + 1)).toNat)), (.inr (.inr (some 726)))] σ (.inl (some (.inl kx)), s1)) (hm : Dd 349 [(.inr (.inr (some 682))), (.inl (σ SCR ((x4 + 1)).toNat))] s1 (.inl (some (.inl b)), s2)) (h1 : ∀ i, s1 SCR i = σ SCR i) (h2 : s1 (SCR + 1) 0 = σ (SCR + 1) 0) (ht : s2 682 0 = kx) (hv : kx = 0 → s2 726 0 = b) (H : ∀ d5 d6, C0_3927 x4 d5 d6 (k + 2) (n + 12) s2 o) : C0_2563 x4 d5 d6 k n σ o := by
  have h244 : Dd 244 [(.inr (.inr (some 682)))] s2 (.inl (some (.inl kx)), s2) := b244 (by rw [ht])
  refine b0_2563 ?_
  refine ⟨by omega, ?_⟩
  refine ⟨by omega, ?_⟩
  refine ⟨by omega, ?_⟩
  refine ⟨_, _, hw, ?_⟩
  refine ⟨by omega, ?_⟩
  refine ⟨by omega, ?_⟩
  refine ⟨by omega, ?_⟩
  try simp only [h1]
  refine ⟨_, _, hm, ?_⟩
  refine ⟨by omega, ?_⟩
  refine ⟨_, _, h244, ?_⟩
  rw [if_pos rfl]
  by_cases h0 : kx = 0
  · rw [if_pos h0]
    rw [if_pos (by have e9 : s2 726 ((0 : Int).toNat) = b := hv h0; rw [e9, if_neg (by omega), if_pos rfl])]
    refine b0_2616 ?_
    exact H _ _
  · rw [if_neg h0]
    refine b0_2616 ?_
    exact H _ _
theorem lc34 {x4 kx b : Int} {d5 d6 : Option AV} {k n : Nat} {σ s1 s2 : Sg} {o : Rs} (hi : 0 ≤ x4 ∧ x4 + 5 < σ (SCR + 1) 0 ∧ σ (SCR + 1) 0 ≤ 3072) (hk : k + 4 ≤ room_1.cells ∧ n + 24 ≤ room_1.slots) (hw : Dd 423 [(.inr (.inr (some 0))), (.inl (σ SCR ((x4 + 1)).toNat)), (.inl (σ SCR ((x4 + 2)).toNat)), (.inl (σ SCR ((x4 + 3)).toNat)), (.inr (.inr (some 726)))] σ (.inl (some (.inl kx)), s1)) (hm : Dd 351 [(.inr (.inr (some 682))), (.inl (σ SCR ((x4 + 1)).toNat)), (.inl (σ SCR ((x4 + 2)).toNat)), (.inl (σ SCR ((x4 + 3)).toNat))] s1 (.inl (some (.inl b)), s2)) (h1 : ∀ i, s1 SCR i = σ SCR i) (h2 : s1 (SCR + 1) 0 = σ (SCR + 1) 0) (ht : s2 682 0 = kx) (hv : kx = 0 → s2 726 0 = b) (H : ∀ d5 d6, C0_3927 x4 d5 d6 (k + 4) (n + 24) s2 o) : C0_2619 x4 d5 d6 k n σ o := by
  have h244 : Dd 244 [(.inr (.inr (some 682)))] s2 (.inl (some (.inl kx)), s2) := b244 (by rw [ht])
  refine b0_2619 ?_
  refine ⟨by omega, ?_⟩
  refine ⟨by omega, ?_⟩
  refine ⟨by omega, ?_⟩
  refine ⟨by omega, ?_⟩
  refine ⟨by omega, ?_⟩
  refine ⟨by omega, ?_⟩
  refine ⟨by omega, ?_⟩
  refine ⟨_, _, hw, ?_⟩
  refine ⟨by omega, ?_⟩
  refine ⟨by omega, ?_⟩
  refine ⟨by omega, ?_⟩
  refine ⟨by omega, ?_⟩
  refine ⟨by omega, ?_⟩
  refine ⟨by omega, ?_⟩
  refine ⟨by omega, ?_⟩
  try simp only [h1]
  refine ⟨_, _, hm, ?_⟩
  refine ⟨by omega, ?_⟩
  refine ⟨_, _, h244, ?_⟩
  rw [if_pos rfl]
  by_cases h0 : kx = 0
  · rw [if_pos h0]
    rw [if_pos (by have e9 : s2 726 ((0 : Int).toNat) = b := hv h0; rw [e9, if_neg (by omega), if_pos rfl])]
    refine b0_2696 ?_
    exact H _ _
  · rw [if_neg h0]
    refine b0_2696 ?_
    exact H _ _
theorem lc35 {x4 kx b : Int} {d5 d6 : Option AV} {k n : Nat} {σ s1 s2 : Sg} {o : Rs} (hi : 0 ≤ x4 ∧ x4 + 5 < σ (SCR + 1) 0 ∧ σ (SCR + 1) 0 ≤ 3072) (hk : k + 4 ≤ room_1.cells ∧ n + 24 ≤ room_1.slots) (hw : Dd 424 [(.inr (.inr (some 0))), (.inl (σ SCR ((x4 + 1)).toNat)), (.inl (σ SCR ((x4 + 2)).toNat)), (.inr (.inr (some 726)))] σ (.inl (some (.inl kx)), s1)) (hm : Dd 352 [(.inr (.inr (some 682))), (.inl (σ SCR ((x4 + 1)).toNat)), (.inl (σ SCR ((x4 + 2)).toNat))] s1 (.inl (some (.inl b)), s2)) (h1 : ∀ i, s1 SCR i = σ SCR i) (h2 : s1 (SCR + 1) 0 = σ (SCR + 1) 0) (ht : s2 682 0 = kx) (hv : kx = 0 → s2 726 0 = b) (H : ∀ d5 d6, C0_3927 x4 d5 d6 (k + 4) (n + 24) s2 o) : C0_2699 x4 d5 d6 k n σ o := by
  have h244 : Dd 244 [(.inr (.inr (some 682)))] s2 (.inl (some (.inl kx)), s2) := b244 (by rw [ht])
  refine b0_2699 ?_
  refine ⟨by omega, ?_⟩
  refine ⟨by omega, ?_⟩
  refine ⟨by omega, ?_⟩
  refine ⟨by omega, ?_⟩
  refine ⟨by omega, ?_⟩
  refine ⟨_, _, hw, ?_⟩
  refine ⟨by omega, ?_⟩
  refine ⟨by omega, ?_⟩
  refine ⟨by omega, ?_⟩
  refine ⟨by omega, ?_⟩
  refine ⟨by omega, ?_⟩
  try simp only [h1]
  refine ⟨_, _, hm, ?_⟩
  refine ⟨by omega, ?_⟩
  refine ⟨_, _, h244, ?_⟩
  rw [if_pos rfl]
  by_cases h0 : kx = 0
  · rw [if_pos h0]
    rw [if_pos (by have e9 : s2 726 ((0 : Int).toNat) = b := hv h0; rw [e9, if_neg (by omega), if_pos rfl])]
    refine b0_2764 ?_
    exact H _ _
  · rw [if_neg h0]
    refine b0_2764 ?_
    exact H _ _
theorem lc36 {x4 kx b : Int} {d5 d6 : Option AV} {k n : Nat} {σ s1 s2 : Sg} {o : Rs} (hi : 0 ≤ x4 ∧ x4 + 5 < σ (SCR + 1) 0 ∧ σ (SCR + 1) 0 ≤ 3072) (hk : k + 0 ≤ room_1.cells ∧ n + 0 ≤ room_1.slots) (hw : Dd 208 [(.inr (.inr (some 0)))] σ (.inl (some (.inl kx)), s1)) (hm : Dd 353 [(.inr (.inr (some 682)))] s1 (.inl (some (.inl b)), s2)) (h1 : ∀ i, s1 SCR i = σ SCR i) (h2 : s1 (SCR + 1) 0 = σ (SCR + 1) 0) (hv : kx = b) (H : ∀ d5 d6, C0_3927 x4 d5 d6 k n s2 o) : C0_2767 x4 d5 d6 k n σ o := by
  refine b0_2767 ?_
  refine ⟨by omega, ?_⟩
  refine ⟨_, _, hw, ?_⟩
  refine ⟨by omega, ?_⟩
  try simp only [h1]
  refine ⟨_, _, hm, ?_⟩
  rw [if_pos hv]
  exact H _ _
theorem lc37 {x4 kx b : Int} {d5 d6 : Option AV} {k n : Nat} {σ s1 s2 : Sg} {o : Rs} (hi : 0 ≤ x4 ∧ x4 + 5 < σ (SCR + 1) 0 ∧ σ (SCR + 1) 0 ≤ 3072) (hk : k + 1 ≤ room_1.cells ∧ n + 6 ≤ room_1.slots) (hw : Dd 425 [(.inr (.inr (some 0))), (.inl (σ SCR ((x4 + 1)).toNat)), (.inr (.inr (some 726)))] σ (.inl (some (.inl kx)), s1)) (hm : Dd 354 [(.inr (.inr (some 682))), (.inl (σ SCR ((x4 + 1)).toNat))] s1 (.inl (some (.inl b)), s2)) (h1 : ∀ i, s1 SCR i = σ SCR i) (h2 : s1 (SCR + 1) 0 = σ (SCR + 1) 0) (ht : s2 682 0 = kx) (hv : kx = 0 → s2 726 0 = b) (H : ∀ d5 d6, C0_3927 x4 d5 d6 (k + 1) (n + 6) s2 o) : C0_2780 x4 d5 d6 k n σ o := by
  have h244 : Dd 244 [(.inr (.inr (some 682)))] s2 (.inl (some (.inl kx)), s2) := b244 (by rw [ht])
  refine b0_2780 ?_
  refine ⟨by omega, ?_⟩
  refine ⟨by omega, ?_⟩
  refine ⟨by omega, ?_⟩
  refine ⟨_, _, hw, ?_⟩
  refine ⟨by omega, ?_⟩
  refine ⟨by omega, ?_⟩
  refine ⟨by omega, ?_⟩
  try simp only [h1]
  refine ⟨_, _, hm, ?_⟩
  refine ⟨by omega, ?_⟩
  refine ⟨_, _, h244, ?_⟩
  rw [if_pos rfl]
  by_cases h0 : kx = 0
  · rw [if_pos h0]
    rw [if_pos (by have e9 : s2 726 ((0 : Int).toNat) = b := hv h0; rw [e9, if_neg (by omega), if_pos rfl])]
    refine b0_2833 ?_
    exact H _ _
  · rw [if_neg h0]
    refine b0_2833 ?_
    exact H _ _
theorem lc38 {x4 kx b : Int} {d5 d6 : Option AV} {k n : Nat} {σ s1 s2 : Sg} {o : Rs} (hi : 0 ≤ x4 ∧ x4 + 5 < σ (SCR + 1) 0 ∧ σ (SCR + 1) 0 ≤ 3072) (hk : k + 1 ≤ room_1.cells ∧ n + 6 ≤ room_1.slots) (hw : Dd 426 [(.inr (.inr (some 0))), (.inl (σ SCR ((x4 + 1)).toNat)), (.inr (.inr (some 726)))] σ (.inl (some (.inl kx)), s1)) (hm : Dd 355 [(.inr (.inr (some 682))), (.inl (σ SCR ((x4 + 1)).toNat))] s1 (.inl (some (.inl b)), s2)) (h1 : ∀ i, s1 SCR i = σ SCR i) (h2 : s1 (SCR + 1) 0 = σ (SCR + 1) 0) (ht : s2 682 0 = kx) (hv : kx = 0 → s2 726 0 = b) (H : ∀ d5 d6, C0_3927 x4 d5 d6 (k + 1) (n + 6) s2 o) : C0_2836 x4 d5 d6 k n σ o := by
  have h244 : Dd 244 [(.inr (.inr (some 682)))] s2 (.inl (some (.inl kx)), s2) := b244 (by rw [ht])
  refine b0_2836 ?_
  refine ⟨by omega, ?_⟩
  refine ⟨by omega, ?_⟩
  refine ⟨by omega, ?_⟩
  refine ⟨_, _, hw, ?_⟩
  refine ⟨by omega, ?_⟩
  refine ⟨by omega, ?_⟩
  refine ⟨by omega, ?_⟩
  try simp only [h1]
  refine ⟨_, _, hm, ?_⟩
  refine ⟨by omega, ?_⟩
  refine ⟨_, _, h244, ?_⟩
  rw [if_pos rfl]
  by_cases h0 : kx = 0
  · rw [if_pos h0]
    rw [if_pos (by have e9 : s2 726 ((0 : Int).toNat) = b := hv h0; rw [e9, if_neg (by omega), if_pos rfl])]
    refine b0_2889 ?_
    exact H _ _
  · rw [if_neg h0]
    refine b0_2889 ?_
    exact H _ _
theorem lc39 {x4 kx b : Int} {d5 d6 : Option AV} {k n : Nat} {σ s1 s2 : Sg} {o : Rs} (hi : 0 ≤ x4 ∧ x4 + 5 < σ (SCR + 1) 0 ∧ σ (SCR + 1) 0 ≤ 3072) (hk : k + 1 ≤ room_1.cells ∧ n + 6 ≤ room_1.slots) (hw : Dd 427 [(.inr (.inr (some 0))), (.inl (σ SCR ((x4 + 1)).toNat)), (.inr (.inr (some 726)))] σ (.inl (some (.inl kx)), s1)) (hm : Dd 357 [(.inr (.inr (some 682))), (.inl (σ SCR ((x4 + 1)).toNat))] s1 (.inl (some (.inl b)), s2)) (h1 : ∀ i, s1 SCR i = σ SCR i) (h2 : s1 (SCR + 1) 0 = σ (SCR + 1) 0) (ht : s2 682 0 = kx) (hv : kx = 0 → s2 726 0 = b) (H : ∀ d5 d6, C0_3927 x4 d5 d6 (k + 1) (n + 6) s2 o) : C0_2892 x4 d5 d6 k n σ o := by
  have h244 : Dd 244 [(.inr (.inr (some 682)))] s2 (.inl (some (.inl kx)), s2) := b244 (by rw [ht])
  refine b0_2892 ?_
  refine ⟨by omega, ?_⟩
  refine ⟨by omega, ?_⟩
  refine ⟨by omega, ?_⟩
  refine ⟨_, _, hw, ?_⟩
  refine ⟨by omega, ?_⟩
  refine ⟨by omega, ?_⟩
  refine ⟨by omega, ?_⟩
  try simp only [h1]
  refine ⟨_, _, hm, ?_⟩
  refine ⟨by omega, ?_⟩
  refine ⟨_, _, h244, ?_⟩
  rw [if_pos rfl]
  by_cases h0 : kx = 0
  · rw [if_pos h0]
    rw [if_pos (by have e9 : s2 726 ((0 : Int).toNat) = b := hv h0; rw [e9, if_neg (by omega), if_pos rfl])]
    refine b0_2945 ?_
    exact H _ _
  · rw [if_neg h0]
    refine b0_2945 ?_
    exact H _ _
theorem lc40 {x4 kx b : Int} {d5 d6 : Option AV} {k n : Nat} {σ s1 s2 : Sg} {o : Rs} (hi : 0 ≤ x4 ∧ x4 + 5 < σ (SCR + 1) 0 ∧ σ (SCR + 1) 0 ≤ 3072) (hk : k + 1 ≤ room_1.cells ∧ n + 6 ≤ room_1.slots) (hw : Dd 428 [(.inr (.inr (some 0))), (.inr (.inr (some 726)))] σ (.inl (some (.inl kx)), s1)) (hm : Dd 361 [(.inr (.inr (some 682)))] s1 (.inl (some (.inl b)), s2)) (h1 : ∀ i, s1 SCR i = σ SCR i) (h2 : s1 (SCR + 1) 0 = σ (SCR + 1) 0) (ht : s2 682 0 = kx) (hv : kx = 0 → s2 726 0 = b) (H : ∀ d5 d6, C0_3927 x4 d5 d6 (k + 1) (n + 6) s2 o) : C0_2948 x4 d5 d6 k n σ o := by
  have h244 : Dd 244 [(.inr (.inr (some 682)))] s2 (.inl (some (.inl kx)), s2) := b244 (by rw [ht])
  refine b0_2948 ?_
  refine ⟨by omega, ?_⟩
  refine ⟨_, _, hw, ?_⟩
  refine ⟨by omega, ?_⟩
  try simp only [h1]
  refine ⟨_, _, hm, ?_⟩
  refine ⟨by omega, ?_⟩
  refine ⟨_, _, h244, ?_⟩
  rw [if_pos rfl]
  by_cases h0 : kx = 0
  · rw [if_pos h0]
    rw [if_pos (by have e9 : s2 726 ((0 : Int).toNat) = b := hv h0; rw [e9, if_neg (by omega), if_pos rfl])]
    refine b0_2989 ?_
    exact H _ _
  · rw [if_neg h0]
    refine b0_2989 ?_
    exact H _ _
theorem lc41 {x4 kx b : Int} {d5 d6 : Option AV} {k n : Nat} {σ s1 s2 : Sg} {o : Rs} (hi : 0 ≤ x4 ∧ x4 + 5 < σ (SCR + 1) 0 ∧ σ (SCR + 1) 0 ≤ 3072) (hk : k + 1 ≤ room_1.cells ∧ n + 6 ≤ room_1.slots) (hw : Dd 429 [(.inr (.inr (some 0))), (.inl (σ SCR ((x4 + 1)).toNat)), (.inr (.inr (some 726)))] σ (.inl (some (.inl kx)), s1)) (hm : Dd 366 [(.inr (.inr (some 682))), (.inl (σ SCR ((x4 + 1)).toNat))] s1 (.inl (some (.inl b)), s2)) (h1 : ∀ i, s1 SCR i = σ SCR i) (h2 : s1 (SCR + 1) 0 = σ (SCR + 1) 0) (ht : s2 682 0 = kx) (hv : kx = 0 → s2 726 0 = b) (H : ∀ d5 d6, C0_3927 x4 d5 d6 (k + 1) (n + 6) s2 o) : C0_2992 x4 d5 d6 k n σ o := by
  have h244 : Dd 244 [(.inr (.inr (some 682)))] s2 (.inl (some (.inl kx)), s2) := b244 (by rw [ht])
  refine b0_2992 ?_
  refine ⟨by omega, ?_⟩
  refine ⟨by omega, ?_⟩
  refine ⟨by omega, ?_⟩
  refine ⟨_, _, hw, ?_⟩
  refine ⟨by omega, ?_⟩
  refine ⟨by omega, ?_⟩
  refine ⟨by omega, ?_⟩
  try simp only [h1]
  refine ⟨_, _, hm, ?_⟩
  refine ⟨by omega, ?_⟩
  refine ⟨_, _, h244, ?_⟩
  rw [if_pos rfl]
  by_cases h0 : kx = 0
  · rw [if_pos h0]
    rw [if_pos (by have e9 : s2 726 ((0 : Int).toNat) = b := hv h0; rw [e9, if_neg (by omega), if_pos rfl])]
    refine b0_3045 ?_
    exact H _ _
  · rw [if_neg h0]
    refine b0_3045 ?_
    exact H _ _
theorem lc42 {x4 kx b : Int} {d5 d6 : Option AV} {k n : Nat} {σ s1 s2 : Sg} {o : Rs} (hi : 0 ≤ x4 ∧ x4 + 5 < σ (SCR + 1) 0 ∧ σ (SCR + 1) 0 ≤ 3072) (hk : k + 1 ≤ room_1.cells ∧ n + 6 ≤ room_1.slots) (hw : Dd 430 [(.inr (.inr (some 0))), (.inl (σ SCR ((x4 + 1)).toNat)), (.inr (.inr (some 726)))] σ (.inl (some (.inl kx)), s1)) (hm : Dd 367 [(.inr (.inr (some 682))), (.inl (σ SCR ((x4 + 1)).toNat))] s1 (.inl (some (.inl b)), s2)) (h1 : ∀ i, s1 SCR i = σ SCR i) (h2 : s1 (SCR + 1) 0 = σ (SCR + 1) 0) (ht : s2 682 0 = kx) (hv : kx = 0 → s2 726 0 = b) (H : ∀ d5 d6, C0_3927 x4 d5 d6 (k + 1) (n + 6) s2 o) : C0_3048 x4 d5 d6 k n σ o := by
  have h244 : Dd 244 [(.inr (.inr (some 682)))] s2 (.inl (some (.inl kx)), s2) := b244 (by rw [ht])
  refine b0_3048 ?_
  refine ⟨by omega, ?_⟩
  refine ⟨by omega, ?_⟩
  refine ⟨by omega, ?_⟩
  refine ⟨_, _, hw, ?_⟩
  refine ⟨by omega, ?_⟩
  refine ⟨by omega, ?_⟩
  refine ⟨by omega, ?_⟩
  try simp only [h1]
  refine ⟨_, _, hm, ?_⟩
  refine ⟨by omega, ?_⟩
  refine ⟨_, _, h244, ?_⟩
  rw [if_pos rfl]
  by_cases h0 : kx = 0
  · rw [if_pos h0]
    rw [if_pos (by have e9 : s2 726 ((0 : Int).toNat) = b := hv h0; rw [e9, if_neg (by omega), if_pos rfl])]
    refine b0_3101 ?_
    exact H _ _
  · rw [if_neg h0]
    refine b0_3101 ?_
    exact H _ _
theorem lc43 {x4 kx b : Int} {d5 d6 : Option AV} {k n : Nat} {σ s1 s2 : Sg} {o : Rs} (hi : 0 ≤ x4 ∧ x4 + 5 < σ (SCR + 1) 0 ∧ σ (SCR + 1) 0 ≤ 3072) (hk : k + 3 ≤ room_1.cells ∧ n + 18 ≤ room_1.slots) (hw : Dd 431 [(.inr (.inr (some 0))), (.inl (σ SCR ((x4 + 1)).toNat)), (.inl (σ SCR ((x4 + 2)).toNat)), (.inl (σ SCR ((x4 + 3)).toNat)), (.inr (.inr (some 726)))] σ (.inl (some (.inl kx)), s1)) (hm : Dd 368 [(.inr (.inr (some 682))), (.inl (σ SCR ((x4 + 1)).toNat)), (.inl (σ SCR ((x4 + 2)).toNat)), (.inl (σ SCR ((x4 + 3)).toNat))] s1 (.inl (some (.inl b)), s2)) (h1 : ∀ i, s1 SCR i = σ SCR i) (h2 : s1 (SCR + 1) 0 = σ (SCR + 1) 0) (ht : s2 682 0 = kx) (hv : kx = 0 → s2 726 0 = (if b = 0 then 0 else 1)) (H : ∀ d5 d6, C0_3927 x4 d5 d6 (k + 3) (n + 18) s2 o) : C0_3104 x4 d5 d6 k n σ o := by
  have h244 : Dd 244 [(.inr (.inr (some 682)))] s2 (.inl (some (.inl kx)), s2) := b244 (by rw [ht])
  refine b0_3104 ?_
  refine ⟨by omega, ?_⟩
  refine ⟨by omega, ?_⟩
  refine ⟨by omega, ?_⟩
  refine ⟨by omega, ?_⟩
  refine ⟨by omega, ?_⟩
  refine ⟨by omega, ?_⟩
  refine ⟨by omega, ?_⟩
  refine ⟨_, _, hw, ?_⟩
  refine ⟨by omega, ?_⟩
  refine ⟨by omega, ?_⟩
  refine ⟨by omega, ?_⟩
  refine ⟨by omega, ?_⟩
  refine ⟨by omega, ?_⟩
  refine ⟨by omega, ?_⟩
  refine ⟨by omega, ?_⟩
  try simp only [h1]
  refine ⟨_, _, hm, ?_⟩
  refine ⟨by omega, ?_⟩
  refine ⟨_, _, h244, ?_⟩
  rw [if_pos rfl]
  by_cases h0 : kx = 0
  · rw [if_pos h0]
    refine b0_3182 ?_
    rw [if_pos (by have e9 : s2 726 ((0 : Int).toNat) = (if b = 0 then 0 else 1) := hv h0; rw [e9, if_neg (by omega), if_pos rfl])]
    refine b0_3188 ?_
    exact H _ _
  · rw [if_neg h0]
    refine b0_3188 ?_
    exact H _ _
theorem lc44 {x4 kx b : Int} {d5 d6 : Option AV} {k n : Nat} {σ s1 s2 : Sg} {o : Rs} (hi : 0 ≤ x4 ∧ x4 + 5 < σ (SCR + 1) 0 ∧ σ (SCR + 1) 0 ≤ 3072) (hk : k + 3 ≤ room_1.cells ∧ n + 18 ≤ room_1.slots) (hw : Dd 432 [(.inr (.inr (some 0))), (.inl (σ SCR ((x4 + 1)).toNat)), (.inl (σ SCR ((x4 + 2)).toNat)), (.inr (.inr (some 726)))] σ (.inl (some (.inl kx)), s1)) (hm : Dd 374 [(.inr (.inr (some 682))), (.inl (σ SCR ((x4 + 1)).toNat)), (.inl (σ SCR ((x4 + 2)).toNat))] s1 (.inl (some (.inl b)), s2)) (h1 : ∀ i, s1 SCR i = σ SCR i) (h2 : s1 (SCR + 1) 0 = σ (SCR + 1) 0) (ht : s2 682 0 = kx) (hv : kx = 0 → s2 726 0 = b) (H : ∀ d5 d6, C0_3927 x4 d5 d6 (k + 3) (n + 18) s2 o) : C0_3191 x4 d5 d6 k n σ o := by
  have h244 : Dd 244 [(.inr (.inr (some 682)))] s2 (.inl (some (.inl kx)), s2) := b244 (by rw [ht])
  refine b0_3191 ?_
  refine ⟨by omega, ?_⟩
  refine ⟨by omega, ?_⟩
  refine ⟨by omega, ?_⟩
  refine ⟨by omega, ?_⟩
  refine ⟨by omega, ?_⟩
  refine ⟨_, _, hw, ?_⟩
  refine ⟨by omega, ?_⟩
  refine ⟨by omega, ?_⟩
  refine ⟨by omega, ?_⟩
  refine ⟨by omega, ?_⟩
  refine ⟨by omega, ?_⟩
  try simp only [h1]
  refine ⟨_, _, hm, ?_⟩
  refine ⟨by omega, ?_⟩
  refine ⟨_, _, h244, ?_⟩
  rw [if_pos rfl]
  by_cases h0 : kx = 0
  · rw [if_pos h0]
    rw [if_pos (by have e9 : s2 726 ((0 : Int).toNat) = b := hv h0; rw [e9, if_neg (by omega), if_pos rfl])]
    refine b0_3256 ?_
    exact H _ _
  · rw [if_neg h0]
    refine b0_3256 ?_
    exact H _ _
theorem lc45 {x4 kx b : Int} {d5 d6 : Option AV} {k n : Nat} {σ s1 s2 : Sg} {o : Rs} (hi : 0 ≤ x4 ∧ x4 + 5 < σ (SCR + 1) 0 ∧ σ (SCR + 1) 0 ≤ 3072) (hk : k + 3 ≤ room_1.cells ∧ n + 18 ≤ room_1.slots) (hw : Dd 433 [(.inr (.inr (some 0))), (.inl (σ SCR ((x4 + 1)).toNat)), (.inl (σ SCR ((x4 + 2)).toNat)), (.inr (.inr (some 726)))] σ (.inl (some (.inl kx)), s1)) (hm : Dd 375 [(.inr (.inr (some 682))), (.inl (σ SCR ((x4 + 1)).toNat)), (.inl (σ SCR ((x4 + 2)).toNat))] s1 (.inl (some (.inl b)), s2)) (h1 : ∀ i, s1 SCR i = σ SCR i) (h2 : s1 (SCR + 1) 0 = σ (SCR + 1) 0) (ht : s2 682 0 = kx) (hv : kx = 0 → s2 726 0 = b) (H : ∀ d5 d6, C0_3927 x4 d5 d6 (k + 3) (n + 18) s2 o) : C0_3259 x4 d5 d6 k n σ o := by
  have h244 : Dd 244 [(.inr (.inr (some 682)))] s2 (.inl (some (.inl kx)), s2) := b244 (by rw [ht])
  refine b0_3259 ?_
  refine ⟨by omega, ?_⟩
  refine ⟨by omega, ?_⟩
  refine ⟨by omega, ?_⟩
  refine ⟨by omega, ?_⟩
  refine ⟨by omega, ?_⟩
  refine ⟨_, _, hw, ?_⟩
  refine ⟨by omega, ?_⟩
  refine ⟨by omega, ?_⟩
  refine ⟨by omega, ?_⟩
  refine ⟨by omega, ?_⟩
  refine ⟨by omega, ?_⟩
  try simp only [h1]
  refine ⟨_, _, hm, ?_⟩
  refine ⟨by omega, ?_⟩
  refine ⟨_, _, h244, ?_⟩
  rw [if_pos rfl]
  by_cases h0 : kx = 0
  · rw [if_pos h0]
    rw [if_pos (by have e9 : s2 726 ((0 : Int).toNat) = b := hv h0; rw [e9, if_neg (by omega), if_pos rfl])]
    refine b0_3324 ?_
    exact H _ _
  · rw [if_neg h0]
    refine b0_3324 ?_
    exact H _ _
theorem lc46 {x4 kx b : Int} {d5 d6 : Option AV} {k n : Nat} {σ s1 s2 : Sg} {o : Rs} (hi : 0 ≤ x4 ∧ x4 + 5 < σ (SCR + 1) 0 ∧ σ (SCR + 1) 0 ≤ 3072) (hk : k + 2 ≤ room_1.cells ∧ n + 12 ≤ room_1.slots) (hw : Dd 434 [(.inr (.inr (some 0))), (.inl (σ SCR ((x4 + 1)).toNat)), (.inl (σ SCR ((x4 + 2)).toNat)), (.inr (.inr (some 726)))] σ (.inl (some (.inl kx)), s1)) (hm : Dd 376 [(.inr (.inr (some 682))), (.inl (σ SCR ((x4 + 1)).toNat)), (.inl (σ SCR ((x4 + 2)).toNat))] s1 (.inl (some (.inl b)), s2)) (h1 : ∀ i, s1 SCR i = σ SCR i) (h2 : s1 (SCR + 1) 0 = σ (SCR + 1) 0) (ht : s2 682 0 = kx) (hv : kx = 0 → s2 726 0 = b) (H : ∀ d5 d6, C0_3927 x4 d5 d6 (k + 2) (n + 12) s2 o) : C0_3327 x4 d5 d6 k n σ o := by
  have h244 : Dd 244 [(.inr (.inr (some 682)))] s2 (.inl (some (.inl kx)), s2) := b244 (by rw [ht])
  refine b0_3327 ?_
  refine ⟨by omega, ?_⟩
  refine ⟨by omega, ?_⟩
  refine ⟨by omega, ?_⟩
  refine ⟨by omega, ?_⟩
  refine ⟨by omega, ?_⟩
  refine ⟨_, _, hw, ?_⟩
  refine ⟨by omega, ?_⟩
  refine ⟨by omega, ?_⟩
  refine ⟨by omega, ?_⟩
  refine ⟨by omega, ?_⟩
  refine ⟨by omega, ?_⟩
  try simp only [h1]
  refine ⟨_, _, hm, ?_⟩
  refine ⟨by omega, ?_⟩
  refine ⟨_, _, h244, ?_⟩
  rw [if_pos rfl]
  by_cases h0 : kx = 0
  · rw [if_pos h0]
    rw [if_pos (by have e9 : s2 726 ((0 : Int).toNat) = b := hv h0; rw [e9, if_neg (by omega), if_pos rfl])]
    refine b0_3392 ?_
    exact H _ _
  · rw [if_neg h0]
    refine b0_3392 ?_
    exact H _ _
theorem lc47 {x4 kx b : Int} {d5 d6 : Option AV} {k n : Nat} {σ s1 s2 : Sg} {o : Rs} (hi : 0 ≤ x4 ∧ x4 + 5 < σ (SCR + 1) 0 ∧ σ (SCR + 1) 0 ≤ 3072) (hk : k + 3 ≤ room_1.cells ∧ n + 18 ≤ room_1.slots) (hw : Dd 435 [(.inr (.inr (some 0))), (.inl (σ SCR ((x4 + 1)).toNat)), (.inl (σ SCR ((x4 + 2)).toNat)), (.inr (.inr (some 726)))] σ (.inl (some (.inl kx)), s1)) (hm : Dd 378 [(.inr (.inr (some 682))), (.inl (σ SCR ((x4 + 1)).toNat)), (.inl (σ SCR ((x4 + 2)).toNat))] s1 (.inl (some (.inl b)), s2)) (h1 : ∀ i, s1 SCR i = σ SCR i) (h2 : s1 (SCR + 1) 0 = σ (SCR + 1) 0) (ht : s2 682 0 = kx) (hv : kx = 0 → s2 726 0 = b) (H : ∀ d5 d6, C0_3927 x4 d5 d6 (k + 3) (n + 18) s2 o) : C0_3395 x4 d5 d6 k n σ o := by
  have h244 : Dd 244 [(.inr (.inr (some 682)))] s2 (.inl (some (.inl kx)), s2) := b244 (by rw [ht])
  refine b0_3395 ?_
  refine ⟨by omega, ?_⟩
  refine ⟨by omega, ?_⟩
  refine ⟨by omega, ?_⟩
  refine ⟨by omega, ?_⟩
  refine ⟨by omega, ?_⟩
  refine ⟨_, _, hw, ?_⟩
  refine ⟨by omega, ?_⟩
  refine ⟨by omega, ?_⟩
  refine ⟨by omega, ?_⟩
  refine ⟨by omega, ?_⟩
  refine ⟨by omega, ?_⟩
  try simp only [h1]
  refine ⟨_, _, hm, ?_⟩
  refine ⟨by omega, ?_⟩
  refine ⟨_, _, h244, ?_⟩
  rw [if_pos rfl]
  by_cases h0 : kx = 0
  · rw [if_pos h0]
    rw [if_pos (by have e9 : s2 726 ((0 : Int).toNat) = b := hv h0; rw [e9, if_neg (by omega), if_pos rfl])]
    refine b0_3460 ?_
    exact H _ _
  · rw [if_neg h0]
    refine b0_3460 ?_
    exact H _ _
theorem lc48 {x4 kx b : Int} {d5 d6 : Option AV} {k n : Nat} {σ s1 s2 : Sg} {o : Rs} (hi : 0 ≤ x4 ∧ x4 + 5 < σ (SCR + 1) 0 ∧ σ (SCR + 1) 0 ≤ 3072) (hk : k + 1 ≤ room_1.cells ∧ n + 6 ≤ room_1.slots) (hw : Dd 436 [(.inr (.inr (some 0))), (.inl (σ SCR ((x4 + 1)).toNat)), (.inr (.inr (some 726)))] σ (.inl (some (.inl kx)), s1)) (hm : Dd 379 [(.inr (.inr (some 682))), (.inl (σ SCR ((x4 + 1)).toNat))] s1 (.inl (some (.inl b)), s2)) (h1 : ∀ i, s1 SCR i = σ SCR i) (h2 : s1 (SCR + 1) 0 = σ (SCR + 1) 0) (ht : s2 682 0 = kx) (hv : kx = 0 → s2 726 0 = b) (H : ∀ d5 d6, C0_3927 x4 d5 d6 (k + 1) (n + 6) s2 o) : C0_3463 x4 d5 d6 k n σ o := by
  have h244 : Dd 244 [(.inr (.inr (some 682)))] s2 (.inl (some (.inl kx)), s2) := b244 (by rw [ht])
  refine b0_3463 ?_
  refine ⟨by omega, ?_⟩
  refine ⟨by omega, ?_⟩
  refine ⟨by omega, ?_⟩
  refine ⟨_, _, hw, ?_⟩
  refine ⟨by omega, ?_⟩
  refine ⟨by omega, ?_⟩
  refine ⟨by omega, ?_⟩
  try simp only [h1]
  refine ⟨_, _, hm, ?_⟩
  refine ⟨by omega, ?_⟩
  refine ⟨_, _, h244, ?_⟩
  rw [if_pos rfl]
  by_cases h0 : kx = 0
  · rw [if_pos h0]
    rw [if_pos (by have e9 : s2 726 ((0 : Int).toNat) = b := hv h0; rw [e9, if_neg (by omega), if_pos rfl])]
    refine b0_3516 ?_
    exact H _ _
  · rw [if_neg h0]
    refine b0_3516 ?_
    exact H _ _
theorem lc49 {x4 kx b : Int} {d5 d6 : Option AV} {k n : Nat} {σ s1 s2 : Sg} {o : Rs} (hi : 0 ≤ x4 ∧ x4 + 5 < σ (SCR + 1) 0 ∧ σ (SCR + 1) 0 ≤ 3072) (hk : k + 2 ≤ room_1.cells ∧ n + 12 ≤ room_1.slots) (hw : Dd 437 [(.inr (.inr (some 0))), (.inl (σ SCR ((x4 + 1)).toNat)), (.inl (σ SCR ((x4 + 2)).toNat)), (.inr (.inr (some 726)))] σ (.inl (some (.inl kx)), s1)) (hm : Dd 380 [(.inr (.inr (some 682))), (.inl (σ SCR ((x4 + 1)).toNat)), (.inl (σ SCR ((x4 + 2)).toNat))] s1 (.inl (some (.inl b)), s2)) (h1 : ∀ i, s1 SCR i = σ SCR i) (h2 : s1 (SCR + 1) 0 = σ (SCR + 1) 0) (ht : s2 682 0 = kx) (hv : kx = 0 → s2 726 0 = b) (H : ∀ d5 d6, C0_3927 x4 d5 d6 (k + 2) (n + 12) s2 o) : C0_3519 x4 d5 d6 k n σ o := by
  have h244 : Dd 244 [(.inr (.inr (some 682)))] s2 (.inl (some (.inl kx)), s2) := b244 (by rw [ht])
  refine b0_3519 ?_
  refine ⟨by omega, ?_⟩
  refine ⟨by omega, ?_⟩
  refine ⟨by omega, ?_⟩
  refine ⟨by omega, ?_⟩
  refine ⟨by omega, ?_⟩
  refine ⟨_, _, hw, ?_⟩
  refine ⟨by omega, ?_⟩
  refine ⟨by omega, ?_⟩
  refine ⟨by omega, ?_⟩
  refine ⟨by omega, ?_⟩
  refine ⟨by omega, ?_⟩
  try simp only [h1]
  refine ⟨_, _, hm, ?_⟩
  refine ⟨by omega, ?_⟩
  refine ⟨_, _, h244, ?_⟩
  rw [if_pos rfl]
  by_cases h0 : kx = 0
  · rw [if_pos h0]
    rw [if_pos (by have e9 : s2 726 ((0 : Int).toNat) = b := hv h0; rw [e9, if_neg (by omega), if_pos rfl])]
    refine b0_3584 ?_
    exact H _ _
  · rw [if_neg h0]
    refine b0_3584 ?_
    exact H _ _
theorem lc50 {x4 kx b : Int} {d5 d6 : Option AV} {k n : Nat} {σ s1 s2 : Sg} {o : Rs} (hi : 0 ≤ x4 ∧ x4 + 5 < σ (SCR + 1) 0 ∧ σ (SCR + 1) 0 ≤ 3072) (hk : k + 3 ≤ room_1.cells ∧ n + 18 ≤ room_1.slots) (hw : Dd 438 [(.inr (.inr (some 0))), (.inl (σ SCR ((x4 + 1)).toNat)), (.inl (σ SCR ((x4 + 2)).toNat)), (.inr (.inr (some 726)))] σ (.inl (some (.inl kx)), s1)) (hm : Dd 382 [(.inr (.inr (some 682))), (.inl (σ SCR ((x4 + 1)).toNat)), (.inl (σ SCR ((x4 + 2)).toNat))] s1 (.inl (some (.inl b)), s2)) (h1 : ∀ i, s1 SCR i = σ SCR i) (h2 : s1 (SCR + 1) 0 = σ (SCR + 1) 0) (ht : s2 682 0 = kx) (hv : kx = 0 → s2 726 0 = b) (H : ∀ d5 d6, C0_3927 x4 d5 d6 (k + 3) (n + 18) s2 o) : C0_3587 x4 d5 d6 k n σ o := by
  have h244 : Dd 244 [(.inr (.inr (some 682)))] s2 (.inl (some (.inl kx)), s2) := b244 (by rw [ht])
  refine b0_3587 ?_
  refine ⟨by omega, ?_⟩
  refine ⟨by omega, ?_⟩
  refine ⟨by omega, ?_⟩
  refine ⟨by omega, ?_⟩
  refine ⟨by omega, ?_⟩
  refine ⟨_, _, hw, ?_⟩
  refine ⟨by omega, ?_⟩
  refine ⟨by omega, ?_⟩
  refine ⟨by omega, ?_⟩
  refine ⟨by omega, ?_⟩
  refine ⟨by omega, ?_⟩
  try simp only [h1]
  refine ⟨_, _, hm, ?_⟩
  refine ⟨by omega, ?_⟩
  refine ⟨_, _, h244, ?_⟩
  rw [if_pos rfl]
  by_cases h0 : kx = 0
  · rw [if_pos h0]
    rw [if_pos (by have e9 : s2 726 ((0 : Int).toNat) = b := hv h0; rw [e9, if_neg (by omega), if_pos rfl])]
    refine b0_3652 ?_
    exact H _ _
  · rw [if_neg h0]
    refine b0_3652 ?_
    exact H _ _
theorem lc51 {x4 kx b : Int} {d5 d6 : Option AV} {k n : Nat} {σ s1 s2 : Sg} {o : Rs} (hi : 0 ≤ x4 ∧ x4 + 5 < σ (SCR + 1) 0 ∧ σ (SCR + 1) 0 ≤ 3072) (hk : k + 4 ≤ room_1.cells ∧ n + 24 ≤ room_1.slots) (hw : Dd 439 [(.inr (.inr (some 0))), (.inl (σ SCR ((x4 + 1)).toNat)), (.inl (σ SCR ((x4 + 2)).toNat)), (.inr (.inr (some 726)))] σ (.inl (some (.inl kx)), s1)) (hm : Dd 385 [(.inr (.inr (some 682))), (.inl (σ SCR ((x4 + 1)).toNat)), (.inl (σ SCR ((x4 + 2)).toNat))] s1 (.inl (some (.inl b)), s2)) (h1 : ∀ i, s1 SCR i = σ SCR i) (h2 : s1 (SCR + 1) 0 = σ (SCR + 1) 0) (ht : s2 682 0 = kx) (hv : kx = 0 → s2 726 0 = b) (H : ∀ d5 d6, C0_3927 x4 d5 d6 (k + 4) (n + 24) s2 o) : C0_3655 x4 d5 d6 k n σ o := by
  have h244 : Dd 244 [(.inr (.inr (some 682)))] s2 (.inl (some (.inl kx)), s2) := b244 (by rw [ht])
  refine b0_3655 ?_
  refine ⟨by omega, ?_⟩
  refine ⟨by omega, ?_⟩
  refine ⟨by omega, ?_⟩
  refine ⟨by omega, ?_⟩
  refine ⟨by omega, ?_⟩
  refine ⟨_, _, hw, ?_⟩
  refine ⟨by omega, ?_⟩
  refine ⟨by omega, ?_⟩
  refine ⟨by omega, ?_⟩
  refine ⟨by omega, ?_⟩
  refine ⟨by omega, ?_⟩
  try simp only [h1]
  refine ⟨_, _, hm, ?_⟩
  refine ⟨by omega, ?_⟩
  refine ⟨_, _, h244, ?_⟩
  rw [if_pos rfl]
  by_cases h0 : kx = 0
  · rw [if_pos h0]
    rw [if_pos (by have e9 : s2 726 ((0 : Int).toNat) = b := hv h0; rw [e9, if_neg (by omega), if_pos rfl])]
    refine b0_3720 ?_
    exact H _ _
  · rw [if_neg h0]
    refine b0_3720 ?_
    exact H _ _
theorem lc52 {x4 kx b : Int} {d5 d6 : Option AV} {k n : Nat} {σ s1 s2 : Sg} {o : Rs} (hi : 0 ≤ x4 ∧ x4 + 5 < σ (SCR + 1) 0 ∧ σ (SCR + 1) 0 ≤ 3072) (hk : k + 1 ≤ room_1.cells ∧ n + 6 ≤ room_1.slots) (hw : Dd 440 [(.inr (.inr (some 0))), (.inl (σ SCR ((x4 + 1)).toNat)), (.inr (.inr (some 726)))] σ (.inl (some (.inl kx)), s1)) (hm : Dd 387 [(.inr (.inr (some 682))), (.inl (σ SCR ((x4 + 1)).toNat))] s1 (.inl (some (.inl b)), s2)) (h1 : ∀ i, s1 SCR i = σ SCR i) (h2 : s1 (SCR + 1) 0 = σ (SCR + 1) 0) (ht : s2 682 0 = kx) (hv : kx = 0 → s2 726 0 = b) (H : ∀ d5 d6, C0_3927 x4 d5 d6 (k + 1) (n + 6) s2 o) : C0_3723 x4 d5 d6 k n σ o := by
  have h244 : Dd 244 [(.inr (.inr (some 682)))] s2 (.inl (some (.inl kx)), s2) := b244 (by rw [ht])
  refine b0_3723 ?_
  refine ⟨by omega, ?_⟩
  refine ⟨by omega, ?_⟩
  refine ⟨by omega, ?_⟩
  refine ⟨_, _, hw, ?_⟩
  refine ⟨by omega, ?_⟩
  refine ⟨by omega, ?_⟩
  refine ⟨by omega, ?_⟩
  try simp only [h1]
  refine ⟨_, _, hm, ?_⟩
  refine ⟨by omega, ?_⟩
  refine ⟨_, _, h244, ?_⟩
  rw [if_pos rfl]
  by_cases h0 : kx = 0
  · rw [if_pos h0]
    rw [if_pos (by have e9 : s2 726 ((0 : Int).toNat) = b := hv h0; rw [e9, if_neg (by omega), if_pos rfl])]
    refine b0_3776 ?_
    exact H _ _
  · rw [if_neg h0]
    refine b0_3776 ?_
    exact H _ _
theorem lc53 {x4 kx b : Int} {d5 d6 : Option AV} {k n : Nat} {σ s1 s2 : Sg} {o : Rs} (hi : 0 ≤ x4 ∧ x4 + 5 < σ (SCR + 1) 0 ∧ σ (SCR + 1) 0 ≤ 3072) (hk : k + 2 ≤ room_1.cells ∧ n + 12 ≤ room_1.slots) (hw : Dd 441 [(.inr (.inr (some 0))), (.inl (σ SCR ((x4 + 1)).toNat)), (.inl (σ SCR ((x4 + 2)).toNat)), (.inr (.inr (some 726)))] σ (.inl (some (.inl kx)), s1)) (hm : Dd 388 [(.inr (.inr (some 682))), (.inl (σ SCR ((x4 + 1)).toNat)), (.inl (σ SCR ((x4 + 2)).toNat))] s1 (.inl (some (.inl b)), s2)) (h1 : ∀ i, s1 SCR i = σ SCR i) (h2 : s1 (SCR + 1) 0 = σ (SCR + 1) 0) (ht : s2 682 0 = kx) (hv : kx = 0 → s2 726 0 = b) (H : ∀ d5 d6, C0_3927 x4 d5 d6 (k + 2) (n + 12) s2 o) : C0_3779 x4 d5 d6 k n σ o := by
  have h244 : Dd 244 [(.inr (.inr (some 682)))] s2 (.inl (some (.inl kx)), s2) := b244 (by rw [ht])
  refine b0_3779 ?_
  refine ⟨by omega, ?_⟩
  refine ⟨by omega, ?_⟩
  refine ⟨by omega, ?_⟩
  refine ⟨by omega, ?_⟩
  refine ⟨by omega, ?_⟩
  refine ⟨_, _, hw, ?_⟩
  refine ⟨by omega, ?_⟩
  refine ⟨by omega, ?_⟩
  refine ⟨by omega, ?_⟩
  refine ⟨by omega, ?_⟩
  refine ⟨by omega, ?_⟩
  try simp only [h1]
  refine ⟨_, _, hm, ?_⟩
  refine ⟨by omega, ?_⟩
  refine ⟨_, _, h244, ?_⟩
  rw [if_pos rfl]
  by_cases h0 : kx = 0
  · rw [if_pos h0]
    rw [if_pos (by have e9 : s2 726 ((0 : Int).toNat) = b := hv h0; rw [e9, if_neg (by omega), if_pos rfl])]
    refine b0_3844 ?_
    exact H _ _
  · rw [if_neg h0]
    refine b0_3844 ?_
    exact H _ _
theorem lc54 {x4 kx b : Int} {d5 d6 : Option AV} {k n : Nat} {σ s1 s2 : Sg} {o : Rs} (hi : 0 ≤ x4 ∧ x4 + 5 < σ (SCR + 1) 0 ∧ σ (SCR + 1) 0 ≤ 3072) (hk : k + 4 ≤ room_1.cells ∧ n + 24 ≤ room_1.slots) (hw : Dd 442 [(.inr (.inr (some 0))), (.inl (σ SCR ((x4 + 1)).toNat)), (.inl (σ SCR ((x4 + 2)).toNat)), (.inl (σ SCR ((x4 + 3)).toNat)), (.inr (.inr (some 726)))] σ (.inl (some (.inl kx)), s1)) (hm : Dd 389 [(.inr (.inr (some 682))), (.inl (σ SCR ((x4 + 1)).toNat)), (.inl (σ SCR ((x4 + 2)).toNat)), (.inl (σ SCR ((x4 + 3)).toNat))] s1 (.inl (some (.inl b)), s2)) (h1 : ∀ i, s1 SCR i = σ SCR i) (h2 : s1 (SCR + 1) 0 = σ (SCR + 1) 0) (ht : s2 682 0 = kx) (hv : kx = 0 → s2 726 0 = b) (H : ∀ d5 d6, C0_3927 x4 d5 d6 (k + 4) (n + 24) s2 o) : C0_3847 x4 d5 d6 k n σ o := by
  have h244 : Dd 244 [(.inr (.inr (some 682)))] s2 (.inl (some (.inl kx)), s2) := b244 (by rw [ht])
  refine b0_3847 ?_
  refine ⟨by omega, ?_⟩
  refine ⟨by omega, ?_⟩
  refine ⟨by omega, ?_⟩
  refine ⟨by omega, ?_⟩
  refine ⟨by omega, ?_⟩
  refine ⟨by omega, ?_⟩
  refine ⟨by omega, ?_⟩
  refine ⟨_, _, hw, ?_⟩
  refine ⟨by omega, ?_⟩
  refine ⟨by omega, ?_⟩
  refine ⟨by omega, ?_⟩
  refine ⟨by omega, ?_⟩
  refine ⟨by omega, ?_⟩
  refine ⟨by omega, ?_⟩
  refine ⟨by omega, ?_⟩
  try simp only [h1]
  refine ⟨_, _, hm, ?_⟩
  refine ⟨by omega, ?_⟩
  refine ⟨_, _, h244, ?_⟩
  rw [if_pos rfl]
  by_cases h0 : kx = 0
  · rw [if_pos h0]
    rw [if_pos (by have e9 : s2 726 ((0 : Int).toNat) = b := hv h0; rw [e9, if_neg (by omega), if_pos rfl])]
    refine b0_3924 ?_
    exact H _ _
  · rw [if_neg h0]
    refine b0_3924 ?_
    exact H _ _
end
