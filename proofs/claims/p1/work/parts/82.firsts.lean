noncomputable section
theorem q0 {σ : Sg} {a1 : Int} {a2 : Int} {a3 : Int} (hz : ∀ a i, a < 1000 → σ a i = 0) : ∃ (kx b : Int) (s1 s2 : Sg), Dd 390 [(.inr (.inr (some 0))), (.inl a1), (.inl a2), (.inl a3), (.inr (.inr (some 726)))] σ (.inl (some (.inl kx)), s1) ∧ Dd 256 [(.inr (.inr (some 682))), (.inl a1), (.inl a2), (.inl a3)] s1 (.inl (some (.inl b)), s2) ∧ s2 682 0 = kx ∧ (kx = 0 → s2 726 0 = b) ∧ (∀ i, s1 SCR i = σ SCR i) ∧ s1 (SCR + 1) 0 = σ (SCR + 1) 0 ∧ s2 (SCR + 1) 0 = σ (SCR + 1) 0 := by
  by_cases g0_0_1 : a1 < 0
  · exact q0_0 hz g0_0_1
  by_cases g0_1_1 : 4 ≤ a1
  · exact q0_1 hz g0_1_1
  have k0_1 : 0 ≤ a1 ∧ a1 < 4 := by omega
  by_cases g1_0_1 : a2 < 0
  · exact q0_2 hz k0_1 g1_0_1
  by_cases g1_1_1 : 0 < a2
  · exact q0_3 hz k0_1 g1_1_1
  have k1_1 : a2 = 0 := by omega
  by_cases g2_0_1 : isLn a3 = false
  · exact q0_4 hz k0_1 k1_1 g2_0_1
  have k2_1 : isLn a3 = true := by simpa using g2_0_1
  exact q0_5 hz k0_1 k1_1 k2_1
theorem q1 {σ : Sg} {a1 : Int} {a2 : Int} (hz : ∀ a i, a < 1000 → σ a i = 0) : ∃ (kx b : Int) (s1 s2 : Sg), Dd 391 [(.inr (.inr (some 0))), (.inl a1), (.inl a2), (.inr (.inr (some 726)))] σ (.inl (some (.inl kx)), s1) ∧ Dd 258 [(.inr (.inr (some 682))), (.inl a1), (.inl a2)] s1 (.inl (some (.inl b)), s2) ∧ s2 682 0 = kx ∧ (kx = 0 → s2 726 0 = b) ∧ (∀ i, s1 SCR i = σ SCR i) ∧ s1 (SCR + 1) 0 = σ (SCR + 1) 0 ∧ s2 (SCR + 1) 0 = σ (SCR + 1) 0 := by
  by_cases g0_0_1 : a1 < 0
  · exact q1_0 hz g0_0_1
  by_cases g0_1_1 : 4 ≤ a1
  · exact q1_1 hz g0_1_1
  have k0_1 : 0 ≤ a1 ∧ a1 < 4 := by omega
  by_cases g1_0_1 : a2 < 0
  · exact q1_2 hz k0_1 g1_0_1
  have k1_1 : 0 ≤ a2 := by omega
  exact q1_3 hz k0_1 k1_1
theorem q2 {σ : Sg} {a1 : Int} {a2 : Int} (hz : ∀ a i, a < 1000 → σ a i = 0) : ∃ (kx b : Int) (s1 s2 : Sg), Dd 392 [(.inr (.inr (some 0))), (.inl a1), (.inl a2), (.inr (.inr (some 726)))] σ (.inl (some (.inl kx)), s1) ∧ Dd 259 [(.inr (.inr (some 682))), (.inl a1), (.inl a2)] s1 (.inl (some (.inl b)), s2) ∧ s2 682 0 = kx ∧ (kx = 0 → s2 726 0 = b) ∧ (∀ i, s1 SCR i = σ SCR i) ∧ s1 (SCR + 1) 0 = σ (SCR + 1) 0 ∧ s2 (SCR + 1) 0 = σ (SCR + 1) 0 := by
  by_cases g0_0_1 : a1 < 0
  · exact q2_0 hz g0_0_1
  by_cases g0_1_1 : 4 ≤ a1
  · exact q2_1 hz g0_1_1
  have k0_1 : 0 ≤ a1 ∧ a1 < 4 := by omega
  by_cases g1_0_1 : a2 < 0
  · exact q2_2 hz k0_1 g1_0_1
  by_cases g1_1_1 : 4 ≤ a2
  · exact q2_3 hz k0_1 g1_1_1
  have k1_1 : 0 ≤ a2 ∧ a2 < 4 := by omega
  exact q2_4 hz k0_1 k1_1
theorem q3 {σ : Sg} {a1 : Int} (hz : ∀ a i, a < 1000 → σ a i = 0) : ∃ (kx b : Int) (s1 s2 : Sg), Dd 393 [(.inr (.inr (some 0))), (.inl a1), (.inr (.inr (some 726)))] σ (.inl (some (.inl kx)), s1) ∧ Dd 260 [(.inr (.inr (some 682))), (.inl a1)] s1 (.inl (some (.inl b)), s2) ∧ s2 682 0 = kx ∧ (kx = 0 → s2 726 0 = b) ∧ (∀ i, s1 SCR i = σ SCR i) ∧ s1 (SCR + 1) 0 = σ (SCR + 1) 0 ∧ s2 (SCR + 1) 0 = σ (SCR + 1) 0 := by
  by_cases g0_0_1 : a1 < 0
  · exact q3_0 hz g0_0_1
  by_cases g0_1_1 : 4 ≤ a1
  · exact q3_1 hz g0_1_1
  have k0_1 : 0 ≤ a1 ∧ a1 < 4 := by omega
  exact q3_2 hz k0_1
theorem q4 {σ : Sg} {a1 : Int} {a2 : Int} (hz : ∀ a i, a < 1000 → σ a i = 0) : ∃ (kx b : Int) (s1 s2 : Sg), Dd 394 [(.inr (.inr (some 0))), (.inl a1), (.inl a2), (.inr (.inr (some 726)))] σ (.inl (some (.inl kx)), s1) ∧ Dd 261 [(.inr (.inr (some 682))), (.inl a1), (.inl a2)] s1 (.inl (some (.inl b)), s2) ∧ s2 682 0 = kx ∧ (kx = 0 → s2 726 0 = b) ∧ (∀ i, s1 SCR i = σ SCR i) ∧ s1 (SCR + 1) 0 = σ (SCR + 1) 0 ∧ s2 (SCR + 1) 0 = σ (SCR + 1) 0 := by
  by_cases g0_0_1 : a1 < 0
  · exact q4_0 hz g0_0_1
  by_cases g0_1_1 : 4 ≤ a1
  · exact q4_1 hz g0_1_1
  have k0_1 : 0 ≤ a1 ∧ a1 < 4 := by omega
  by_cases g1_0_1 : a2 < 0
  · exact q4_2 hz k0_1 g1_0_1
  have k1_1 : 0 ≤ a2 := by omega
  exact q4_3 hz k0_1 k1_1
theorem q6 {σ : Sg} {a1 : Int} {a2 : Int} {a3 : Int} {a4 : Int} (hz : ∀ a i, a < 1000 → σ a i = 0) : ∃ (kx b : Int) (s1 s2 : Sg), Dd 396 [(.inr (.inr (some 0))), (.inl a1), (.inl a2), (.inl a3), (.inl a4), (.inr (.inr (some 726)))] σ (.inl (some (.inl kx)), s1) ∧ Dd 277 [(.inr (.inr (some 682))), (.inl a1), (.inl a2), (.inl a3), (.inl a4)] s1 (.inl (some (.inl b)), s2) ∧ s2 682 0 = kx ∧ (kx = 0 → s2 726 0 = b) ∧ (∀ i, s1 SCR i = σ SCR i) ∧ s1 (SCR + 1) 0 = σ (SCR + 1) 0 ∧ s2 (SCR + 1) 0 = σ (SCR + 1) 0 := by
  by_cases g0_0_1 : a1 < 0
  · exact q6_0 hz g0_0_1
  by_cases g0_1_1 : 4 ≤ a1
  · exact q6_1 hz g0_1_1
  have k0_1 : 0 ≤ a1 ∧ a1 < 4 := by omega
  by_cases g1_0_1 : a2 < 0
  · exact q6_2 hz k0_1 g1_0_1
  by_cases g1_1_1 : 4 ≤ a2
  · exact q6_3 hz k0_1 g1_1_1
  have k1_1 : 0 ≤ a2 ∧ a2 < 4 := by omega
  by_cases g3_0_1 : a4 < 0
  · exact q6_4 hz k0_1 k1_1 g3_0_1
  have k3_1 : 0 ≤ a4 := by omega
  exact q6_5 hz k0_1 k1_1 k3_1
theorem q7 {σ : Sg} {a1 : Int} {a2 : Int} {a3 : Int} (hz : ∀ a i, a < 1000 → σ a i = 0) : ∃ (kx b : Int) (s1 s2 : Sg), Dd 397 [(.inr (.inr (some 0))), (.inl a1), (.inl a2), (.inl a3), (.inr (.inr (some 726)))] σ (.inl (some (.inl kx)), s1) ∧ Dd 278 [(.inr (.inr (some 682))), (.inl a1), (.inl a2), (.inl a3)] s1 (.inl (some (.inl b)), s2) ∧ s2 682 0 = kx ∧ (kx = 0 → s2 726 0 = b) ∧ (∀ i, s1 SCR i = σ SCR i) ∧ s1 (SCR + 1) 0 = σ (SCR + 1) 0 ∧ s2 (SCR + 1) 0 = σ (SCR + 1) 0 := by
  by_cases g0_0_1 : a1 < 0
  · exact q7_0 hz g0_0_1
  by_cases g0_1_1 : 4 ≤ a1
  · exact q7_1 hz g0_1_1
  have k0_1 : 0 ≤ a1 ∧ a1 < 4 := by omega
  by_cases g1_0_1 : a2 < 0
  · exact q7_2 hz k0_1 g1_0_1
  by_cases g1_1_1 : 4 ≤ a2
  · exact q7_3 hz k0_1 g1_1_1
  have k1_1 : 0 ≤ a2 ∧ a2 < 4 := by omega
  by_cases g2_0_1 : a3 < 0
  · exact q7_4 hz k0_1 k1_1 g2_0_1
  by_cases g2_1_1 : 2 < a3
  · exact q7_5 hz k0_1 k1_1 g2_1_1
  by_cases g2_2_1 : a3 = 0
  · exact q7_6 hz k0_1 k1_1 g2_2_1
  by_cases g2_3_1 : a3 = 1
  · exact q7_7 hz k0_1 k1_1 g2_3_1
  have k2_1 : a3 = 2 := by omega
  exact q7_8 hz k0_1 k1_1 k2_1
theorem q8 {σ : Sg} {a1 : Int} {a2 : Int} (hz : ∀ a i, a < 1000 → σ a i = 0) : ∃ (kx b : Int) (s1 s2 : Sg), Dd 398 [(.inr (.inr (some 0))), (.inl a1), (.inl a2), (.inr (.inr (some 726)))] σ (.inl (some (.inl kx)), s1) ∧ Dd 279 [(.inr (.inr (some 682))), (.inl a1), (.inl a2)] s1 (.inl (some (.inl b)), s2) ∧ s2 682 0 = kx ∧ (kx = 0 → s2 726 0 = b) ∧ (∀ i, s1 SCR i = σ SCR i) ∧ s1 (SCR + 1) 0 = σ (SCR + 1) 0 ∧ s2 (SCR + 1) 0 = σ (SCR + 1) 0 := by
  by_cases g0_0_1 : a1 < 0
  · exact q8_0 hz g0_0_1
  by_cases g0_1_1 : 4 ≤ a1
  · exact q8_1 hz g0_1_1
  have k0_1 : 0 ≤ a1 ∧ a1 < 4 := by omega
  by_cases g1_0_1 : a2 < 0
  · exact q8_2 hz k0_1 g1_0_1
  by_cases g1_1_1 : 4 ≤ a2
  · exact q8_3 hz k0_1 g1_1_1
  have k1_1 : 0 ≤ a2 ∧ a2 < 4 := by omega
  exact q8_4 hz k0_1 k1_1
theorem q9 {σ : Sg} {a1 : Int} {a2 : Int} {a3 : Int} (hz : ∀ a i, a < 1000 → σ a i = 0) : ∃ (kx b : Int) (s1 s2 : Sg), Dd 399 [(.inr (.inr (some 0))), (.inl a1), (.inl a2), (.inl a3), (.inr (.inr (some 726)))] σ (.inl (some (.inl kx)), s1) ∧ Dd 299 [(.inr (.inr (some 682))), (.inl a1), (.inl a2), (.inl a3)] s1 (.inl (some (.inl b)), s2) ∧ s2 682 0 = kx ∧ (kx = 0 → s2 726 0 = b) ∧ (∀ i, s1 SCR i = σ SCR i) ∧ s1 (SCR + 1) 0 = σ (SCR + 1) 0 ∧ s2 (SCR + 1) 0 = σ (SCR + 1) 0 := by
  by_cases g0_0_1 : a1 < 0
  · exact q9_0 hz g0_0_1
  by_cases g0_1_1 : 4 ≤ a1
  · exact q9_1 hz g0_1_1
  have k0_1 : 0 ≤ a1 ∧ a1 < 4 := by omega
  by_cases g1_0_1 : a2 < 0
  · exact q9_2 hz k0_1 g1_0_1
  by_cases g1_1_1 : 4 ≤ a2
  · exact q9_3 hz k0_1 g1_1_1
  have k1_1 : 0 ≤ a2 ∧ a2 < 4 := by omega
  by_cases g2_0_1 : a3 < 0
  · exact q9_4 hz k0_1 k1_1 g2_0_1
  by_cases g2_1_1 : 2 < a3
  · exact q9_5 hz k0_1 k1_1 g2_1_1
  by_cases g2_2_1 : a3 = 0
  · exact q9_6 hz k0_1 k1_1 g2_2_1
  by_cases g2_3_1 : a3 = 1
  · exact q9_7 hz k0_1 k1_1 g2_3_1
  have k2_1 : a3 = 2 := by omega
  exact q9_8 hz k0_1 k1_1 k2_1
theorem q10 {σ : Sg} {a1 : Int} (hz : ∀ a i, a < 1000 → σ a i = 0) : ∃ (kx b : Int) (s1 s2 : Sg), Dd 400 [(.inr (.inr (some 0))), (.inl a1), (.inr (.inr (some 726)))] σ (.inl (some (.inl kx)), s1) ∧ Dd 300 [(.inr (.inr (some 682))), (.inl a1)] s1 (.inl (some (.inl b)), s2) ∧ s2 682 0 = kx ∧ (kx = 0 → s2 726 0 = b) ∧ (∀ i, s1 SCR i = σ SCR i) ∧ s1 (SCR + 1) 0 = σ (SCR + 1) 0 ∧ s2 (SCR + 1) 0 = σ (SCR + 1) 0 := by
  by_cases g0_0_1 : a1 < 0
  · exact q10_0 hz g0_0_1
  have k0_1 : 0 ≤ a1 := by omega
  exact q10_1 hz k0_1
theorem q11 {σ : Sg} {a1 : Int} {a2 : Int} (hz : ∀ a i, a < 1000 → σ a i = 0) : ∃ (kx b : Int) (s1 s2 : Sg), Dd 401 [(.inr (.inr (some 0))), (.inl a1), (.inl a2), (.inr (.inr (some 726)))] σ (.inl (some (.inl kx)), s1) ∧ Dd 301 [(.inr (.inr (some 682))), (.inl a1), (.inl a2)] s1 (.inl (some (.inl b)), s2) ∧ s2 682 0 = kx ∧ (kx = 0 → s2 726 0 = b) ∧ (∀ i, s1 SCR i = σ SCR i) ∧ s1 (SCR + 1) 0 = σ (SCR + 1) 0 ∧ s2 (SCR + 1) 0 = σ (SCR + 1) 0 := by
  by_cases g0_0_1 : a1 < 0
  · exact q11_0 hz g0_0_1
  have k0_1 : 0 ≤ a1 := by omega
  exact q11_1 hz k0_1
theorem q12 {σ : Sg} {a1 : Int} {a2 : Int} (hz : ∀ a i, a < 1000 → σ a i = 0) : ∃ (kx b : Int) (s1 s2 : Sg), Dd 402 [(.inr (.inr (some 0))), (.inl a1), (.inl a2), (.inr (.inr (some 726)))] σ (.inl (some (.inl kx)), s1) ∧ Dd 302 [(.inr (.inr (some 682))), (.inl a1), (.inl a2)] s1 (.inl (some (.inl b)), s2) ∧ s2 682 0 = kx ∧ (kx = 0 → s2 726 0 = (if b = 0 then 0 else 1)) ∧ (∀ i, s1 SCR i = σ SCR i) ∧ s1 (SCR + 1) 0 = σ (SCR + 1) 0 ∧ s2 (SCR + 1) 0 = σ (SCR + 1) 0 := by
  by_cases g0_0_1 : a1 < 0
  · exact q12_0 hz g0_0_1
  have k0_1 : 0 ≤ a1 := by omega
  exact q12_1 hz k0_1
theorem q13 {σ : Sg} {a1 : Int} {a2 : Int} {a3 : Int} (hz : ∀ a i, a < 1000 → σ a i = 0) : ∃ (kx b : Int) (s1 s2 : Sg), Dd 403 [(.inr (.inr (some 0))), (.inl a1), (.inl a2), (.inl a3), (.inr (.inr (some 726)))] σ (.inl (some (.inl kx)), s1) ∧ Dd 303 [(.inr (.inr (some 682))), (.inl a1), (.inl a2), (.inl a3)] s1 (.inl (some (.inl b)), s2) ∧ s2 682 0 = kx ∧ (kx = 0 → s2 726 0 = b) ∧ (∀ i, s1 SCR i = σ SCR i) ∧ s1 (SCR + 1) 0 = σ (SCR + 1) 0 ∧ s2 (SCR + 1) 0 = σ (SCR + 1) 0 := by
  by_cases g0_0_1 : a1 < 0
  · exact q13_0 hz g0_0_1
  have k0_1 : 0 ≤ a1 := by omega
  exact q13_1 hz k0_1
theorem q14 {σ : Sg} {a1 : Int} {a2 : Int} {a3 : Int} {a4 : Int} {a5 : Int} (hz : ∀ a i, a < 1000 → σ a i = 0) : ∃ (kx b : Int) (s1 s2 : Sg), Dd 404 [(.inr (.inr (some 0))), (.inl a1), (.inl a2), (.inl a3), (.inl a4), (.inl a5), (.inr (.inr (some 726)))] σ (.inl (some (.inl kx)), s1) ∧ Dd 305 [(.inr (.inr (some 682))), (.inl a1), (.inl a2), (.inl a3), (.inl a4), (.inl a5)] s1 (.inl (some (.inl b)), s2) ∧ s2 682 0 = kx ∧ (kx = 0 → s2 726 0 = b) ∧ (∀ i, s1 SCR i = σ SCR i) ∧ s1 (SCR + 1) 0 = σ (SCR + 1) 0 ∧ s2 (SCR + 1) 0 = σ (SCR + 1) 0 := by
  by_cases g0_0_1 : a1 < 0
  · exact q14_0 hz g0_0_1
  have k0_1 : 0 ≤ a1 := by omega
  exact q14_1 hz k0_1
theorem q15 {σ : Sg} (hz : ∀ a i, a < 1000 → σ a i = 0) : ∃ (kx b : Int) (s1 s2 : Sg), Dd 187 [(.inr (.inr (some 0)))] σ (.inl (some (.inl kx)), s1) ∧ Dd 306 [(.inr (.inr (some 682)))] s1 (.inl (some (.inl b)), s2) ∧ kx = b ∧ (∀ i, s1 SCR i = σ SCR i) ∧ s1 (SCR + 1) 0 = σ (SCR + 1) 0 ∧ s2 (SCR + 1) 0 = σ (SCR + 1) 0 := by
  exact q15_0 hz
theorem q16 {σ : Sg} {a1 : Int} {a2 : Int} {a3 : Int} (hz : ∀ a i, a < 1000 → σ a i = 0) : ∃ (kx b : Int) (s1 s2 : Sg), Dd 405 [(.inr (.inr (some 0))), (.inl a1), (.inl a2), (.inl a3), (.inr (.inr (some 726)))] σ (.inl (some (.inl kx)), s1) ∧ Dd 307 [(.inr (.inr (some 682))), (.inl a1), (.inl a2), (.inl a3)] s1 (.inl (some (.inl b)), s2) ∧ s2 682 0 = kx ∧ (kx = 0 → s2 726 0 = b) ∧ (∀ i, s1 SCR i = σ SCR i) ∧ s1 (SCR + 1) 0 = σ (SCR + 1) 0 ∧ s2 (SCR + 1) 0 = σ (SCR + 1) 0 := by
  by_cases g0_0_1 : a1 < 0
  · exact q16_0 hz g0_0_1
  have k0_1 : 0 ≤ a1 := by omega
  exact q16_1 hz k0_1
theorem q17 {σ : Sg} {a1 : Int} {a2 : Int} (hz : ∀ a i, a < 1000 → σ a i = 0) : ∃ (kx b : Int) (s1 s2 : Sg), Dd 406 [(.inr (.inr (some 0))), (.inl a1), (.inl a2), (.inr (.inr (some 726)))] σ (.inl (some (.inl kx)), s1) ∧ Dd 309 [(.inr (.inr (some 682))), (.inl a1), (.inl a2)] s1 (.inl (some (.inl b)), s2) ∧ s2 682 0 = kx ∧ (kx = 0 → s2 726 0 = b) ∧ (∀ i, s1 SCR i = σ SCR i) ∧ s1 (SCR + 1) 0 = σ (SCR + 1) 0 ∧ s2 (SCR + 1) 0 = σ (SCR + 1) 0 := by
  by_cases g0_0_1 : a1 < 0
  · exact q17_0 hz g0_0_1
  have k0_1 : 0 ≤ a1 := by omega
  exact q17_1 hz k0_1
theorem q18 {σ : Sg} {a1 : Int} (hz : ∀ a i, a < 1000 → σ a i = 0) : ∃ (kx b : Int) (s1 s2 : Sg), Dd 407 [(.inr (.inr (some 0))), (.inl a1), (.inr (.inr (some 726)))] σ (.inl (some (.inl kx)), s1) ∧ Dd 310 [(.inr (.inr (some 682))), (.inl a1)] s1 (.inl (some (.inl b)), s2) ∧ s2 682 0 = kx ∧ (kx = 0 → s2 726 0 = b) ∧ (∀ i, s1 SCR i = σ SCR i) ∧ s1 (SCR + 1) 0 = σ (SCR + 1) 0 ∧ s2 (SCR + 1) 0 = σ (SCR + 1) 0 := by
  by_cases g0_0_1 : a1 < 0
  · exact q18_0 hz g0_0_1
  have k0_1 : 0 ≤ a1 := by omega
  exact q18_1 hz k0_1
theorem q19 {σ : Sg} {a1 : Int} {a2 : Int} {a3 : Int} (hz : ∀ a i, a < 1000 → σ a i = 0) : ∃ (kx b : Int) (s1 s2 : Sg), Dd 408 [(.inr (.inr (some 0))), (.inl a1), (.inl a2), (.inl a3), (.inr (.inr (some 726)))] σ (.inl (some (.inl kx)), s1) ∧ Dd 311 [(.inr (.inr (some 682))), (.inl a1), (.inl a2), (.inl a3)] s1 (.inl (some (.inl b)), s2) ∧ s2 682 0 = kx ∧ (kx = 0 → s2 726 0 = b) ∧ (∀ i, s1 SCR i = σ SCR i) ∧ s1 (SCR + 1) 0 = σ (SCR + 1) 0 ∧ s2 (SCR + 1) 0 = σ (SCR + 1) 0 := by
  by_cases g0_0_1 : a1 < 0
  · exact q19_0 hz g0_0_1
  have k0_1 : 0 ≤ a1 := by omega
  exact q19_1 hz k0_1
theorem q20 {σ : Sg} {a1 : Int} {a2 : Int} (hz : ∀ a i, a < 1000 → σ a i = 0) : ∃ (kx b : Int) (s1 s2 : Sg), Dd 409 [(.inr (.inr (some 0))), (.inl a1), (.inl a2), (.inr (.inr (some 726)))] σ (.inl (some (.inl kx)), s1) ∧ Dd 316 [(.inr (.inr (some 682))), (.inl a1), (.inl a2)] s1 (.inl (some (.inl b)), s2) ∧ s2 682 0 = kx ∧ (kx = 0 → s2 726 0 = b) ∧ (∀ i, s1 SCR i = σ SCR i) ∧ s1 (SCR + 1) 0 = σ (SCR + 1) 0 ∧ s2 (SCR + 1) 0 = σ (SCR + 1) 0 := by
  by_cases g0_0_1 : a1 < 0
  · exact q20_0 hz g0_0_1
  have k0_1 : 0 ≤ a1 := by omega
  exact q20_1 hz k0_1
theorem q21 {σ : Sg} {a1 : Int} {a2 : Int} (hz : ∀ a i, a < 1000 → σ a i = 0) : ∃ (kx b : Int) (s1 s2 : Sg), Dd 410 [(.inr (.inr (some 0))), (.inl a1), (.inl a2), (.inr (.inr (some 726)))] σ (.inl (some (.inl kx)), s1) ∧ Dd 317 [(.inr (.inr (some 682))), (.inl a1), (.inl a2)] s1 (.inl (some (.inl b)), s2) ∧ s2 682 0 = kx ∧ (kx = 0 → s2 726 0 = (if b = 0 then 0 else 1)) ∧ (∀ i, s1 SCR i = σ SCR i) ∧ s1 (SCR + 1) 0 = σ (SCR + 1) 0 ∧ s2 (SCR + 1) 0 = σ (SCR + 1) 0 := by
  by_cases g0_0_1 : a1 < 0
  · exact q21_0 hz g0_0_1
  have k0_1 : 0 ≤ a1 := by omega
  exact q21_1 hz k0_1
theorem q22 {σ : Sg} {a1 : Int} {a2 : Int} (hz : ∀ a i, a < 1000 → σ a i = 0) : ∃ (kx b : Int) (s1 s2 : Sg), Dd 411 [(.inr (.inr (some 0))), (.inl a1), (.inl a2), (.inr (.inr (some 726)))] σ (.inl (some (.inl kx)), s1) ∧ Dd 320 [(.inr (.inr (some 682))), (.inl a1), (.inl a2)] s1 (.inl (some (.inl b)), s2) ∧ s2 682 0 = kx ∧ (kx = 0 → s2 726 0 = b) ∧ (∀ i, s1 SCR i = σ SCR i) ∧ s1 (SCR + 1) 0 = σ (SCR + 1) 0 ∧ s2 (SCR + 1) 0 = σ (SCR + 1) 0 := by
  by_cases g0_0_1 : a1 < 0
  · exact q22_0 hz g0_0_1
  have k0_1 : 0 ≤ a1 := by omega
  exact q22_1 hz k0_1
theorem q23 {σ : Sg} {a1 : Int} {a2 : Int} {a3 : Int} (hz : ∀ a i, a < 1000 → σ a i = 0) : ∃ (kx b : Int) (s1 s2 : Sg), Dd 412 [(.inr (.inr (some 0))), (.inl a1), (.inl a2), (.inl a3), (.inr (.inr (some 726)))] σ (.inl (some (.inl kx)), s1) ∧ Dd 326 [(.inr (.inr (some 682))), (.inl a1), (.inl a2), (.inl a3)] s1 (.inl (some (.inl b)), s2) ∧ s2 682 0 = kx ∧ (kx = 0 → s2 726 0 = b) ∧ (∀ i, s1 SCR i = σ SCR i) ∧ s1 (SCR + 1) 0 = σ (SCR + 1) 0 ∧ s2 (SCR + 1) 0 = σ (SCR + 1) 0 := by
  by_cases g0_0_1 : a1 < 0
  · exact q23_0 hz g0_0_1
  have k0_1 : 0 ≤ a1 := by omega
  exact q23_1 hz k0_1
theorem q24 {σ : Sg} {a1 : Int} (hz : ∀ a i, a < 1000 → σ a i = 0) : ∃ (kx b : Int) (s1 s2 : Sg), Dd 413 [(.inr (.inr (some 0))), (.inl a1), (.inr (.inr (some 726)))] σ (.inl (some (.inl kx)), s1) ∧ Dd 327 [(.inr (.inr (some 682))), (.inl a1)] s1 (.inl (some (.inl b)), s2) ∧ s2 682 0 = kx ∧ (kx = 0 → s2 726 0 = b) ∧ (∀ i, s1 SCR i = σ SCR i) ∧ s1 (SCR + 1) 0 = σ (SCR + 1) 0 ∧ s2 (SCR + 1) 0 = σ (SCR + 1) 0 := by
  by_cases g0_0_1 : a1 < 0
  · exact q24_0 hz g0_0_1
  have k0_1 : 0 ≤ a1 := by omega
  exact q24_1 hz k0_1
theorem q25 {σ : Sg} {a1 : Int} {a2 : Int} {a3 : Int} (hz : ∀ a i, a < 1000 → σ a i = 0) : ∃ (kx b : Int) (s1 s2 : Sg), Dd 414 [(.inr (.inr (some 0))), (.inl a1), (.inl a2), (.inl a3), (.inr (.inr (some 726)))] σ (.inl (some (.inl kx)), s1) ∧ Dd 333 [(.inr (.inr (some 682))), (.inl a1), (.inl a2), (.inl a3)] s1 (.inl (some (.inl b)), s2) ∧ s2 682 0 = kx ∧ (kx = 0 → s2 726 0 = b) ∧ (∀ i, s1 SCR i = σ SCR i) ∧ s1 (SCR + 1) 0 = σ (SCR + 1) 0 ∧ s2 (SCR + 1) 0 = σ (SCR + 1) 0 := by
  by_cases g0_0_1 : a1 < 0
  · exact q25_0 hz g0_0_1
  have k0_1 : 0 ≤ a1 := by omega
  exact q25_1 hz k0_1
theorem q26 {σ : Sg} {a1 : Int} (hz : ∀ a i, a < 1000 → σ a i = 0) : ∃ (kx b : Int) (s1 s2 : Sg), Dd 415 [(.inr (.inr (some 0))), (.inl a1), (.inr (.inr (some 726)))] σ (.inl (some (.inl kx)), s1) ∧ Dd 338 [(.inr (.inr (some 682))), (.inl a1)] s1 (.inl (some (.inl b)), s2) ∧ s2 682 0 = kx ∧ (kx = 0 → s2 726 0 = b) ∧ (∀ i, s1 SCR i = σ SCR i) ∧ s1 (SCR + 1) 0 = σ (SCR + 1) 0 ∧ s2 (SCR + 1) 0 = σ (SCR + 1) 0 := by
  by_cases g0_0_1 : a1 < 0
  · exact q26_0 hz g0_0_1
  by_cases g0_1_1 : 4 ≤ a1
  · exact q26_1 hz g0_1_1
  have k0_1 : 0 ≤ a1 ∧ a1 < 4 := by omega
  exact q26_2 hz k0_1
theorem q27 {σ : Sg} {a1 : Int} {a2 : Int} {a3 : Int} (hz : ∀ a i, a < 1000 → σ a i = 0) : ∃ (kx b : Int) (s1 s2 : Sg), Dd 416 [(.inr (.inr (some 0))), (.inl a1), (.inl a2), (.inl a3), (.inr (.inr (some 726)))] σ (.inl (some (.inl kx)), s1) ∧ Dd 339 [(.inr (.inr (some 682))), (.inl a1), (.inl a2), (.inl a3)] s1 (.inl (some (.inl b)), s2) ∧ s2 682 0 = kx ∧ (kx = 0 → s2 726 0 = b) ∧ (∀ i, s1 SCR i = σ SCR i) ∧ s1 (SCR + 1) 0 = σ (SCR + 1) 0 ∧ s2 (SCR + 1) 0 = σ (SCR + 1) 0 := by
  by_cases g0_0_1 : a1 < 0
  · exact q27_0 hz g0_0_1
  by_cases g0_1_1 : 4 ≤ a1
  · exact q27_1 hz g0_1_1
  have k0_1 : 0 ≤ a1 ∧ a1 < 4 := by omega
  by_cases g1_0_1 : a2 < 0
  · exact q27_2 hz k0_1 g1_0_1
  have k1_1 : 0 ≤ a2 := by omega
  exact q27_3 hz k0_1 k1_1
theorem q28 {σ : Sg} {a1 : Int} (hz : ∀ a i, a < 1000 → σ a i = 0) : ∃ (kx b : Int) (s1 s2 : Sg), Dd 417 [(.inr (.inr (some 0))), (.inl a1), (.inr (.inr (some 726)))] σ (.inl (some (.inl kx)), s1) ∧ Dd 343 [(.inr (.inr (some 682))), (.inl a1)] s1 (.inl (some (.inl b)), s2) ∧ s2 682 0 = kx ∧ (kx = 0 → s2 726 0 = b) ∧ (∀ i, s1 SCR i = σ SCR i) ∧ s1 (SCR + 1) 0 = σ (SCR + 1) 0 ∧ s2 (SCR + 1) 0 = σ (SCR + 1) 0 := by
  by_cases g0_0_1 : a1 < 0
  · exact q28_0 hz g0_0_1
  by_cases g0_1_1 : 4 ≤ a1
  · exact q28_1 hz g0_1_1
  have k0_1 : 0 ≤ a1 ∧ a1 < 4 := by omega
  exact q28_2 hz k0_1
theorem q29 {σ : Sg} {a1 : Int} (hz : ∀ a i, a < 1000 → σ a i = 0) : ∃ (kx b : Int) (s1 s2 : Sg), Dd 418 [(.inr (.inr (some 0))), (.inl a1), (.inr (.inr (some 726)))] σ (.inl (some (.inl kx)), s1) ∧ Dd 345 [(.inr (.inr (some 682))), (.inl a1)] s1 (.inl (some (.inl b)), s2) ∧ s2 682 0 = kx ∧ (kx = 0 → s2 726 0 = b) ∧ (∀ i, s1 SCR i = σ SCR i) ∧ s1 (SCR + 1) 0 = σ (SCR + 1) 0 ∧ s2 (SCR + 1) 0 = σ (SCR + 1) 0 := by
  by_cases g0_0_1 : a1 < 0
  · exact q29_0 hz g0_0_1
  have k0_1 : 0 ≤ a1 := by omega
  exact q29_1 hz k0_1
theorem q30 {σ : Sg} (hz : ∀ a i, a < 1000 → σ a i = 0) : ∃ (kx b : Int) (s1 s2 : Sg), Dd 419 [(.inr (.inr (some 0))), (.inr (.inr (some 726)))] σ (.inl (some (.inl kx)), s1) ∧ Dd 346 [(.inr (.inr (some 682)))] s1 (.inl (some (.inl b)), s2) ∧ s2 682 0 = kx ∧ (kx = 0 → s2 726 0 = b) ∧ (∀ i, s1 SCR i = σ SCR i) ∧ s1 (SCR + 1) 0 = σ (SCR + 1) 0 ∧ s2 (SCR + 1) 0 = σ (SCR + 1) 0 := by
  exact q30_0 hz
theorem q31 {σ : Sg} {a1 : Int} (hz : ∀ a i, a < 1000 → σ a i = 0) : ∃ (kx b : Int) (s1 s2 : Sg), Dd 420 [(.inr (.inr (some 0))), (.inl a1), (.inr (.inr (some 726)))] σ (.inl (some (.inl kx)), s1) ∧ Dd 347 [(.inr (.inr (some 682))), (.inl a1)] s1 (.inl (some (.inl b)), s2) ∧ s2 682 0 = kx ∧ (kx = 0 → s2 726 0 = b) ∧ (∀ i, s1 SCR i = σ SCR i) ∧ s1 (SCR + 1) 0 = σ (SCR + 1) 0 ∧ s2 (SCR + 1) 0 = σ (SCR + 1) 0 := by
  by_cases g0_0_1 : a1 < 0
  · exact q31_0 hz g0_0_1
  have k0_1 : 0 ≤ a1 := by omega
  exact q31_1 hz k0_1
theorem q32 {σ : Sg} {a1 : Int} (hz : ∀ a i, a < 1000 → σ a i = 0) : ∃ (kx b : Int) (s1 s2 : Sg), Dd 421 [(.inr (.inr (some 0))), (.inl a1), (.inr (.inr (some 726)))] σ (.inl (some (.inl kx)), s1) ∧ Dd 348 [(.inr (.inr (some 682))), (.inl a1)] s1 (.inl (some (.inl b)), s2) ∧ s2 682 0 = kx ∧ (kx = 0 → s2 726 0 = b) ∧ (∀ i, s1 SCR i = σ SCR i) ∧ s1 (SCR + 1) 0 = σ (SCR + 1) 0 ∧ s2 (SCR + 1) 0 = σ (SCR + 1) 0 := by
  by_cases g0_0_1 : a1 < 0
  · exact q32_0 hz g0_0_1
  have k0_1 : 0 ≤ a1 := by omega
  exact q32_1 hz k0_1
theorem q33 {σ : Sg} {a1 : Int} (hz : ∀ a i, a < 1000 → σ a i = 0) : ∃ (kx b : Int) (s1 s2 : Sg), Dd 422 [(.inr (.inr (some 0))), (.inl a1), (.inr (.inr (some 726)))] σ (.inl (some (.inl kx)), s1) ∧ Dd 349 [(.inr (.inr (some 682))), (.inl a1)] s1 (.inl (some (.inl b)), s2) ∧ s2 682 0 = kx ∧ (kx = 0 → s2 726 0 = b) ∧ (∀ i, s1 SCR i = σ SCR i) ∧ s1 (SCR + 1) 0 = σ (SCR + 1) 0 ∧ s2 (SCR + 1) 0 = σ (SCR + 1) 0 := by
  by_cases g0_0_1 : a1 < 0
  · exact q33_0 hz g0_0_1
  have k0_1 : 0 ≤ a1 := by omega
  exact q33_1 hz k0_1
theorem q34 {σ : Sg} {a1 : Int} {a2 : Int} {a3 : Int} (hz : ∀ a i, a < 1000 → σ a i = 0) : ∃ (kx b : Int) (s1 s2 : Sg), Dd 423 [(.inr (.inr (some 0))), (.inl a1), (.inl a2), (.inl a3), (.inr (.inr (some 726)))] σ (.inl (some (.inl kx)), s1) ∧ Dd 351 [(.inr (.inr (some 682))), (.inl a1), (.inl a2), (.inl a3)] s1 (.inl (some (.inl b)), s2) ∧ s2 682 0 = kx ∧ (kx = 0 → s2 726 0 = b) ∧ (∀ i, s1 SCR i = σ SCR i) ∧ s1 (SCR + 1) 0 = σ (SCR + 1) 0 ∧ s2 (SCR + 1) 0 = σ (SCR + 1) 0 := by
  by_cases g0_0_1 : a1 < 0
  · exact q34_0 hz g0_0_1
  have k0_1 : 0 ≤ a1 := by omega
  exact q34_1 hz k0_1
theorem q35 {σ : Sg} {a1 : Int} {a2 : Int} (hz : ∀ a i, a < 1000 → σ a i = 0) : ∃ (kx b : Int) (s1 s2 : Sg), Dd 424 [(.inr (.inr (some 0))), (.inl a1), (.inl a2), (.inr (.inr (some 726)))] σ (.inl (some (.inl kx)), s1) ∧ Dd 352 [(.inr (.inr (some 682))), (.inl a1), (.inl a2)] s1 (.inl (some (.inl b)), s2) ∧ s2 682 0 = kx ∧ (kx = 0 → s2 726 0 = b) ∧ (∀ i, s1 SCR i = σ SCR i) ∧ s1 (SCR + 1) 0 = σ (SCR + 1) 0 ∧ s2 (SCR + 1) 0 = σ (SCR + 1) 0 := by
  by_cases g0_0_1 : a1 < 0
  · exact q35_0 hz g0_0_1
  by_cases g0_1_1 : 4 ≤ a1
  · exact q35_1 hz g0_1_1
  have k0_1 : 0 ≤ a1 ∧ a1 < 4 := by omega
  by_cases g1_0_1 : a2 < 0
  · exact q35_2 hz k0_1 g1_0_1
  by_cases g1_1_1 : 2 < a2
  · exact q35_3 hz k0_1 g1_1_1
  by_cases g1_2_1 : a2 = 0
  · exact q35_4 hz k0_1 g1_2_1
  by_cases g1_3_1 : a2 = 1
  · exact q35_5 hz k0_1 g1_3_1
  have k1_1 : a2 = 2 := by omega
  exact q35_6 hz k0_1 k1_1
theorem q36 {σ : Sg} (hz : ∀ a i, a < 1000 → σ a i = 0) : ∃ (kx b : Int) (s1 s2 : Sg), Dd 208 [(.inr (.inr (some 0)))] σ (.inl (some (.inl kx)), s1) ∧ Dd 353 [(.inr (.inr (some 682)))] s1 (.inl (some (.inl b)), s2) ∧ kx = b ∧ (∀ i, s1 SCR i = σ SCR i) ∧ s1 (SCR + 1) 0 = σ (SCR + 1) 0 ∧ s2 (SCR + 1) 0 = σ (SCR + 1) 0 := by
  exact q36_0 hz
theorem q37 {σ : Sg} {a1 : Int} (hz : ∀ a i, a < 1000 → σ a i = 0) : ∃ (kx b : Int) (s1 s2 : Sg), Dd 425 [(.inr (.inr (some 0))), (.inl a1), (.inr (.inr (some 726)))] σ (.inl (some (.inl kx)), s1) ∧ Dd 354 [(.inr (.inr (some 682))), (.inl a1)] s1 (.inl (some (.inl b)), s2) ∧ s2 682 0 = kx ∧ (kx = 0 → s2 726 0 = b) ∧ (∀ i, s1 SCR i = σ SCR i) ∧ s1 (SCR + 1) 0 = σ (SCR + 1) 0 ∧ s2 (SCR + 1) 0 = σ (SCR + 1) 0 := by
  by_cases g0_0_1 : a1 < 0
  · exact q37_0 hz g0_0_1
  have k0_1 : 0 ≤ a1 := by omega
  exact q37_1 hz k0_1
theorem q38 {σ : Sg} {a1 : Int} (hz : ∀ a i, a < 1000 → σ a i = 0) : ∃ (kx b : Int) (s1 s2 : Sg), Dd 426 [(.inr (.inr (some 0))), (.inl a1), (.inr (.inr (some 726)))] σ (.inl (some (.inl kx)), s1) ∧ Dd 355 [(.inr (.inr (some 682))), (.inl a1)] s1 (.inl (some (.inl b)), s2) ∧ s2 682 0 = kx ∧ (kx = 0 → s2 726 0 = b) ∧ (∀ i, s1 SCR i = σ SCR i) ∧ s1 (SCR + 1) 0 = σ (SCR + 1) 0 ∧ s2 (SCR + 1) 0 = σ (SCR + 1) 0 := by
  by_cases g0_0_1 : a1 < 0
  · exact q38_0 hz g0_0_1
  have k0_1 : 0 ≤ a1 := by omega
  exact q38_1 hz k0_1
theorem q39 {σ : Sg} {a1 : Int} (hz : ∀ a i, a < 1000 → σ a i = 0) : ∃ (kx b : Int) (s1 s2 : Sg), Dd 427 [(.inr (.inr (some 0))), (.inl a1), (.inr (.inr (some 726)))] σ (.inl (some (.inl kx)), s1) ∧ Dd 357 [(.inr (.inr (some 682))), (.inl a1)] s1 (.inl (some (.inl b)), s2) ∧ s2 682 0 = kx ∧ (kx = 0 → s2 726 0 = b) ∧ (∀ i, s1 SCR i = σ SCR i) ∧ s1 (SCR + 1) 0 = σ (SCR + 1) 0 ∧ s2 (SCR + 1) 0 = σ (SCR + 1) 0 := by
  by_cases g0_0_1 : a1 < 0
  · exact q39_0 hz g0_0_1
  have k0_1 : 0 ≤ a1 := by omega
  exact q39_1 hz k0_1
theorem q40 {σ : Sg} (hz : ∀ a i, a < 1000 → σ a i = 0) : ∃ (kx b : Int) (s1 s2 : Sg), Dd 428 [(.inr (.inr (some 0))), (.inr (.inr (some 726)))] σ (.inl (some (.inl kx)), s1) ∧ Dd 361 [(.inr (.inr (some 682)))] s1 (.inl (some (.inl b)), s2) ∧ s2 682 0 = kx ∧ (kx = 0 → s2 726 0 = b) ∧ (∀ i, s1 SCR i = σ SCR i) ∧ s1 (SCR + 1) 0 = σ (SCR + 1) 0 ∧ s2 (SCR + 1) 0 = σ (SCR + 1) 0 := by
  exact q40_0 hz
theorem q41 {σ : Sg} {a1 : Int} (hz : ∀ a i, a < 1000 → σ a i = 0) : ∃ (kx b : Int) (s1 s2 : Sg), Dd 429 [(.inr (.inr (some 0))), (.inl a1), (.inr (.inr (some 726)))] σ (.inl (some (.inl kx)), s1) ∧ Dd 366 [(.inr (.inr (some 682))), (.inl a1)] s1 (.inl (some (.inl b)), s2) ∧ s2 682 0 = kx ∧ (kx = 0 → s2 726 0 = b) ∧ (∀ i, s1 SCR i = σ SCR i) ∧ s1 (SCR + 1) 0 = σ (SCR + 1) 0 ∧ s2 (SCR + 1) 0 = σ (SCR + 1) 0 := by
  by_cases g0_0_1 : a1 < 0
  · exact q41_0 hz g0_0_1
  have k0_1 : 0 ≤ a1 := by omega
  exact q41_1 hz k0_1
theorem q42 {σ : Sg} {a1 : Int} (hz : ∀ a i, a < 1000 → σ a i = 0) : ∃ (kx b : Int) (s1 s2 : Sg), Dd 430 [(.inr (.inr (some 0))), (.inl a1), (.inr (.inr (some 726)))] σ (.inl (some (.inl kx)), s1) ∧ Dd 367 [(.inr (.inr (some 682))), (.inl a1)] s1 (.inl (some (.inl b)), s2) ∧ s2 682 0 = kx ∧ (kx = 0 → s2 726 0 = b) ∧ (∀ i, s1 SCR i = σ SCR i) ∧ s1 (SCR + 1) 0 = σ (SCR + 1) 0 ∧ s2 (SCR + 1) 0 = σ (SCR + 1) 0 := by
  by_cases g0_0_1 : a1 < 0
  · exact q42_0 hz g0_0_1
  have k0_1 : 0 ≤ a1 := by omega
  exact q42_1 hz k0_1
theorem q43 {σ : Sg} {a1 : Int} {a2 : Int} {a3 : Int} (hz : ∀ a i, a < 1000 → σ a i = 0) : ∃ (kx b : Int) (s1 s2 : Sg), Dd 431 [(.inr (.inr (some 0))), (.inl a1), (.inl a2), (.inl a3), (.inr (.inr (some 726)))] σ (.inl (some (.inl kx)), s1) ∧ Dd 368 [(.inr (.inr (some 682))), (.inl a1), (.inl a2), (.inl a3)] s1 (.inl (some (.inl b)), s2) ∧ s2 682 0 = kx ∧ (kx = 0 → s2 726 0 = (if b = 0 then 0 else 1)) ∧ (∀ i, s1 SCR i = σ SCR i) ∧ s1 (SCR + 1) 0 = σ (SCR + 1) 0 ∧ s2 (SCR + 1) 0 = σ (SCR + 1) 0 := by
  by_cases g0_0_1 : a1 < 0
  · exact q43_0 hz g0_0_1
  by_cases g0_1_1 : 3 ≤ a1
  · exact q43_1 hz g0_1_1
  have k0_1 : 0 ≤ a1 ∧ a1 < 3 := by omega
  by_cases g1_0_1 : a2 < 0
  · exact q43_2 hz k0_1 g1_0_1
  by_cases g1_1_1 : 6 ≤ a2
  · exact q43_3 hz k0_1 g1_1_1
  have k1_1 : 0 ≤ a2 ∧ a2 < 6 := by omega
  by_cases g2_0_1 : a3 < -1
  · exact q43_4 hz k0_1 k1_1 g2_0_1
  by_cases g2_1_1 : 4 ≤ a3
  · exact q43_5 hz k0_1 k1_1 g2_1_1
  by_cases g2_2_1 : a3 = -1
  · exact q43_6 hz k0_1 k1_1 g2_2_1
  have k2_1 : 0 ≤ a3 ∧ a3 < 4 := by omega
  exact q43_7 hz k0_1 k1_1 k2_1
theorem q44 {σ : Sg} {a1 : Int} {a2 : Int} (hz : ∀ a i, a < 1000 → σ a i = 0) : ∃ (kx b : Int) (s1 s2 : Sg), Dd 432 [(.inr (.inr (some 0))), (.inl a1), (.inl a2), (.inr (.inr (some 726)))] σ (.inl (some (.inl kx)), s1) ∧ Dd 374 [(.inr (.inr (some 682))), (.inl a1), (.inl a2)] s1 (.inl (some (.inl b)), s2) ∧ s2 682 0 = kx ∧ (kx = 0 → s2 726 0 = b) ∧ (∀ i, s1 SCR i = σ SCR i) ∧ s1 (SCR + 1) 0 = σ (SCR + 1) 0 ∧ s2 (SCR + 1) 0 = σ (SCR + 1) 0 := by
  by_cases g0_0_1 : a1 < 0
  · exact q44_0 hz g0_0_1
  by_cases g0_1_1 : 3 ≤ a1
  · exact q44_1 hz g0_1_1
  have k0_1 : 0 ≤ a1 ∧ a1 < 3 := by omega
  by_cases g1_0_1 : a2 < 0
  · exact q44_2 hz k0_1 g1_0_1
  by_cases g1_1_1 : 3 ≤ a2
  · exact q44_3 hz k0_1 g1_1_1
  have k1_1 : 0 ≤ a2 ∧ a2 < 3 := by omega
  exact q44_4 hz k0_1 k1_1
theorem q45 {σ : Sg} {a1 : Int} {a2 : Int} (hz : ∀ a i, a < 1000 → σ a i = 0) : ∃ (kx b : Int) (s1 s2 : Sg), Dd 433 [(.inr (.inr (some 0))), (.inl a1), (.inl a2), (.inr (.inr (some 726)))] σ (.inl (some (.inl kx)), s1) ∧ Dd 375 [(.inr (.inr (some 682))), (.inl a1), (.inl a2)] s1 (.inl (some (.inl b)), s2) ∧ s2 682 0 = kx ∧ (kx = 0 → s2 726 0 = b) ∧ (∀ i, s1 SCR i = σ SCR i) ∧ s1 (SCR + 1) 0 = σ (SCR + 1) 0 ∧ s2 (SCR + 1) 0 = σ (SCR + 1) 0 := by
  by_cases g0_0_1 : a1 < 0
  · exact q45_0 hz g0_0_1
  have k0_1 : 0 ≤ a1 := by omega
  exact q45_1 hz k0_1
theorem q46 {σ : Sg} {a1 : Int} {a2 : Int} (hz : ∀ a i, a < 1000 → σ a i = 0) : ∃ (kx b : Int) (s1 s2 : Sg), Dd 434 [(.inr (.inr (some 0))), (.inl a1), (.inl a2), (.inr (.inr (some 726)))] σ (.inl (some (.inl kx)), s1) ∧ Dd 376 [(.inr (.inr (some 682))), (.inl a1), (.inl a2)] s1 (.inl (some (.inl b)), s2) ∧ s2 682 0 = kx ∧ (kx = 0 → s2 726 0 = b) ∧ (∀ i, s1 SCR i = σ SCR i) ∧ s1 (SCR + 1) 0 = σ (SCR + 1) 0 ∧ s2 (SCR + 1) 0 = σ (SCR + 1) 0 := by
  by_cases g0_0_1 : a1 < 0
  · exact q46_0 hz g0_0_1
  have k0_1 : 0 ≤ a1 := by omega
  exact q46_1 hz k0_1
theorem q47 {σ : Sg} {a1 : Int} {a2 : Int} (hz : ∀ a i, a < 1000 → σ a i = 0) : ∃ (kx b : Int) (s1 s2 : Sg), Dd 435 [(.inr (.inr (some 0))), (.inl a1), (.inl a2), (.inr (.inr (some 726)))] σ (.inl (some (.inl kx)), s1) ∧ Dd 378 [(.inr (.inr (some 682))), (.inl a1), (.inl a2)] s1 (.inl (some (.inl b)), s2) ∧ s2 682 0 = kx ∧ (kx = 0 → s2 726 0 = b) ∧ (∀ i, s1 SCR i = σ SCR i) ∧ s1 (SCR + 1) 0 = σ (SCR + 1) 0 ∧ s2 (SCR + 1) 0 = σ (SCR + 1) 0 := by
  by_cases g0_0_1 : a1 < 0
  · exact q47_0 hz g0_0_1
  by_cases g0_1_1 : 4 ≤ a1
  · exact q47_1 hz g0_1_1
  have k0_1 : 0 ≤ a1 ∧ a1 < 4 := by omega
  by_cases g1_0_1 : a2 < 0
  · exact q47_2 hz k0_1 g1_0_1
  by_cases g1_1_1 : 255 < a2
  · exact q47_3 hz k0_1 g1_1_1
  have k1_1 : 0 ≤ a2 ∧ a2 ≤ 255 := by omega
  exact q47_4 hz k0_1 k1_1
theorem q48 {σ : Sg} {a1 : Int} (hz : ∀ a i, a < 1000 → σ a i = 0) : ∃ (kx b : Int) (s1 s2 : Sg), Dd 436 [(.inr (.inr (some 0))), (.inl a1), (.inr (.inr (some 726)))] σ (.inl (some (.inl kx)), s1) ∧ Dd 379 [(.inr (.inr (some 682))), (.inl a1)] s1 (.inl (some (.inl b)), s2) ∧ s2 682 0 = kx ∧ (kx = 0 → s2 726 0 = b) ∧ (∀ i, s1 SCR i = σ SCR i) ∧ s1 (SCR + 1) 0 = σ (SCR + 1) 0 ∧ s2 (SCR + 1) 0 = σ (SCR + 1) 0 := by
  by_cases g0_0_1 : a1 < 0
  · exact q48_0 hz g0_0_1
  by_cases g0_1_1 : 4 ≤ a1
  · exact q48_1 hz g0_1_1
  have k0_1 : 0 ≤ a1 ∧ a1 < 4 := by omega
  exact q48_2 hz k0_1
theorem q49 {σ : Sg} {a1 : Int} {a2 : Int} (hz : ∀ a i, a < 1000 → σ a i = 0) : ∃ (kx b : Int) (s1 s2 : Sg), Dd 437 [(.inr (.inr (some 0))), (.inl a1), (.inl a2), (.inr (.inr (some 726)))] σ (.inl (some (.inl kx)), s1) ∧ Dd 380 [(.inr (.inr (some 682))), (.inl a1), (.inl a2)] s1 (.inl (some (.inl b)), s2) ∧ s2 682 0 = kx ∧ (kx = 0 → s2 726 0 = b) ∧ (∀ i, s1 SCR i = σ SCR i) ∧ s1 (SCR + 1) 0 = σ (SCR + 1) 0 ∧ s2 (SCR + 1) 0 = σ (SCR + 1) 0 := by
  by_cases g0_0_1 : a1 < 0
  · exact q49_0 hz g0_0_1
  by_cases g0_1_1 : 4 ≤ a1
  · exact q49_1 hz g0_1_1
  have k0_1 : 0 ≤ a1 ∧ a1 < 4 := by omega
  by_cases g1_0_1 : a2 < 0
  · exact q49_2 hz k0_1 g1_0_1
  have k1_1 : 0 ≤ a2 := by omega
  exact q49_3 hz k0_1 k1_1
theorem q50 {σ : Sg} {a1 : Int} {a2 : Int} (hz : ∀ a i, a < 1000 → σ a i = 0) : ∃ (kx b : Int) (s1 s2 : Sg), Dd 438 [(.inr (.inr (some 0))), (.inl a1), (.inl a2), (.inr (.inr (some 726)))] σ (.inl (some (.inl kx)), s1) ∧ Dd 382 [(.inr (.inr (some 682))), (.inl a1), (.inl a2)] s1 (.inl (some (.inl b)), s2) ∧ s2 682 0 = kx ∧ (kx = 0 → s2 726 0 = b) ∧ (∀ i, s1 SCR i = σ SCR i) ∧ s1 (SCR + 1) 0 = σ (SCR + 1) 0 ∧ s2 (SCR + 1) 0 = σ (SCR + 1) 0 := by
  by_cases g0_0_1 : a1 < 0
  · exact q50_0 hz g0_0_1
  by_cases g0_1_1 : 4 ≤ a1
  · exact q50_1 hz g0_1_1
  have k0_1 : 0 ≤ a1 ∧ a1 < 4 := by omega
  by_cases g1_0_1 : a2 < 0
  · exact q50_2 hz k0_1 g1_0_1
  by_cases g1_1_1 : 4 ≤ a2
  · exact q50_3 hz k0_1 g1_1_1
  have k1_1 : 0 ≤ a2 ∧ a2 < 4 := by omega
  exact q50_4 hz k0_1 k1_1
theorem q51 {σ : Sg} {a1 : Int} {a2 : Int} (hz : ∀ a i, a < 1000 → σ a i = 0) : ∃ (kx b : Int) (s1 s2 : Sg), Dd 439 [(.inr (.inr (some 0))), (.inl a1), (.inl a2), (.inr (.inr (some 726)))] σ (.inl (some (.inl kx)), s1) ∧ Dd 385 [(.inr (.inr (some 682))), (.inl a1), (.inl a2)] s1 (.inl (some (.inl b)), s2) ∧ s2 682 0 = kx ∧ (kx = 0 → s2 726 0 = b) ∧ (∀ i, s1 SCR i = σ SCR i) ∧ s1 (SCR + 1) 0 = σ (SCR + 1) 0 ∧ s2 (SCR + 1) 0 = σ (SCR + 1) 0 := by
  by_cases g0_0_1 : a1 < 0
  · exact q51_0 hz g0_0_1
  have k0_1 : 0 ≤ a1 := by omega
  exact q51_1 hz k0_1
theorem q52 {σ : Sg} {a1 : Int} (hz : ∀ a i, a < 1000 → σ a i = 0) : ∃ (kx b : Int) (s1 s2 : Sg), Dd 440 [(.inr (.inr (some 0))), (.inl a1), (.inr (.inr (some 726)))] σ (.inl (some (.inl kx)), s1) ∧ Dd 387 [(.inr (.inr (some 682))), (.inl a1)] s1 (.inl (some (.inl b)), s2) ∧ s2 682 0 = kx ∧ (kx = 0 → s2 726 0 = b) ∧ (∀ i, s1 SCR i = σ SCR i) ∧ s1 (SCR + 1) 0 = σ (SCR + 1) 0 ∧ s2 (SCR + 1) 0 = σ (SCR + 1) 0 := by
  by_cases g0_0_1 : a1 < 0
  · exact q52_0 hz g0_0_1
  have k0_1 : 0 ≤ a1 := by omega
  exact q52_1 hz k0_1
theorem q53 {σ : Sg} {a1 : Int} {a2 : Int} (hz : ∀ a i, a < 1000 → σ a i = 0) : ∃ (kx b : Int) (s1 s2 : Sg), Dd 441 [(.inr (.inr (some 0))), (.inl a1), (.inl a2), (.inr (.inr (some 726)))] σ (.inl (some (.inl kx)), s1) ∧ Dd 388 [(.inr (.inr (some 682))), (.inl a1), (.inl a2)] s1 (.inl (some (.inl b)), s2) ∧ s2 682 0 = kx ∧ (kx = 0 → s2 726 0 = b) ∧ (∀ i, s1 SCR i = σ SCR i) ∧ s1 (SCR + 1) 0 = σ (SCR + 1) 0 ∧ s2 (SCR + 1) 0 = σ (SCR + 1) 0 := by
  by_cases g0_0_1 : a1 < 0
  · exact q53_0 hz g0_0_1
  have k0_1 : 0 ≤ a1 := by omega
  exact q53_1 hz k0_1
theorem q54 {σ : Sg} {a1 : Int} {a2 : Int} {a3 : Int} (hz : ∀ a i, a < 1000 → σ a i = 0) : ∃ (kx b : Int) (s1 s2 : Sg), Dd 442 [(.inr (.inr (some 0))), (.inl a1), (.inl a2), (.inl a3), (.inr (.inr (some 726)))] σ (.inl (some (.inl kx)), s1) ∧ Dd 389 [(.inr (.inr (some 682))), (.inl a1), (.inl a2), (.inl a3)] s1 (.inl (some (.inl b)), s2) ∧ s2 682 0 = kx ∧ (kx = 0 → s2 726 0 = b) ∧ (∀ i, s1 SCR i = σ SCR i) ∧ s1 (SCR + 1) 0 = σ (SCR + 1) 0 ∧ s2 (SCR + 1) 0 = σ (SCR + 1) 0 := by
  by_cases g0_0_1 : a1 < 0
  · exact q54_0 hz g0_0_1
  have k0_1 : 0 ≤ a1 := by omega
  exact q54_1 hz k0_1
theorem q5 {σ : Sg} {a1 a2 : Int} (hz : ∀ a i, a < 1000 → σ a i = 0) : ∃ (kx b : Int) (s1 s2 : Sg), Dd 395 [(.inr (.inr (some 0))), (.inl a1), (.inl a2), (.inr (.inr (some 726)))] σ (.inl (some (.inl kx)), s1) ∧ Dd 262 [(.inr (.inr (some 682))), (.inl a1), (.inl a2)] s1 (.inl (some (.inl b)), s2) ∧ s2 682 0 = kx ∧ (kx = 0 → s2 726 0 = b) ∧ (∀ i, s1 SCR i = σ SCR i) ∧ s1 (SCR + 1) 0 = σ (SCR + 1) 0 ∧ s2 (SCR + 1) 0 = σ (SCR + 1) 0 := lik_op (fun q hq => ⟨hz _ _ (by omega), hz _ _ (by omega)⟩)
end
