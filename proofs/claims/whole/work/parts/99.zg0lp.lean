/-! The law's loop. -/
noncomputable section
theorem Rel_init (Ls : Nat) (scr : Nat → Int) : Rel 0 (sig0 Ls scr) := by
  have z : ∀ a k, a < 1000 → sig0 Ls scr a k = 0 := fun a k h => by
    have hs : ¬ a = SCR := by unfold SCR; omega
    have hs2 : ¬ (a = SCR + 1 ∧ k = 0) := by unfold SCR; omega
    unfold sig0
    rw [if_neg hs, if_neg hs2]
  have re : ∀ a A off, a < 900 → A < 900 → ∀ n : Int, n = 0 → rowEq (sig0 Ls scr) a A off n := fun a A off h1 h2 n hn => ⟨by rw [z _ _ (by omega), hn], fun i hi => absurd hi (by omega)⟩
  refine ⟨fun a ha => ?_, ?_, fun t ht => ⟨re _ _ _ (by omega) (by omega) _ (z _ _ (by omega)), fun i hi => ?_⟩, fun t ht => ⟨re _ _ _ (by omega) (by omega) _ (z _ _ (by omega)), fun i hi => ?_⟩, ⟨?_, ?_, ?_, fun p hp => ?_⟩, ⟨?_, ?_, ?_, ?_, ?_, ?_, re _ _ _ (by omega) (by omega) _ (z _ _ (by omega)), fun k hk => ?_, re _ _ _ (by omega) (by omega) _ (z _ _ (by omega)), fun i hi => ?_, fun k hk => ?_⟩, ⟨?_, fun h hh => ?_⟩, ⟨fun f hf => ⟨?_, ?_, fun h => ?_⟩, ?_, ?_, re _ _ _ (by omega) (by omega) _ (by rw [z _ _ (by omega)]; rfl), fun i hi => ?_⟩, ⟨?_, ?_, ?_, fun d hd => ?_⟩⟩
  · rw [z a 1 (by have := row_lt ha; omega)]
    omega
  · intro q hq
    exact ⟨z _ _ (by omega), z _ _ (by omega)⟩
  · rw [z _ _ (by omega)] at hi; omega
  · rw [z _ _ (by omega)] at hi; omega
  · rw [z _ _ (by omega)]; omega
  · rw [z _ _ (by omega)]; omega
  · rw [z _ _ (by omega), z _ _ (by omega)]
  · rw [z _ _ (by omega)] at hp; omega
  · rw [z _ _ (by omega)]; omega
  · rw [z _ _ (by omega)]; omega
  · rw [z _ _ (by omega), z _ _ (by omega)]
  · rw [z _ _ (by omega)]; omega
  · rw [z _ _ (by omega)]; omega
  · rw [z _ _ (by omega), z _ _ (by omega)]
  · rw [z _ _ (by omega)] at hk; omega
  · rw [z _ _ (by omega)] at hi; omega
  · rw [z _ _ (by omega)] at hk; omega
  · rw [z _ _ (by omega), z _ _ (by omega)]
  · rw [z _ _ (by omega)] at hh; omega
  · rw [z _ _ (by omega), z _ _ (by omega)]
  · rw [z _ _ (by omega)]; omega
  · rw [z _ _ (by omega)] at h; omega
  · rw [z _ _ (by omega)]; omega
  · rw [z _ _ (by omega)]; omega
  · rw [z _ _ (by omega)] at hi; omega
  · rw [z _ _ (by omega)]; omega
  · rw [z _ _ (by omega)]; omega
  · rw [z _ _ (by omega), z _ _ (by omega)]
  · rw [z _ _ (by omega)] at hd; omega
theorem ite01 {v : Int} : (if v = 0 then (0 : Int) else 1) = 0 ∨ (if v = 0 then (0 : Int) else 1) = 1 := by
  by_cases h : v = 0
  · exact Or.inl (if_pos h)
  · exact Or.inr (if_neg h)
theorem law_it {x4 c : Int} {σ : Sg} (R : Rel c σ) (hc : c < 1000000) (hi : 0 ≤ x4 ∧ x4 + 5 < σ (SCR + 1) 0 ∧ σ (SCR + 1) 0 ≤ 3072) (hx : ∀ i, σ SCR i ≤ 2147483647) : ∃ s2 : Sg, Rel (c + 1) s2 ∧ (∀ i, s2 SCR i = σ SCR i) ∧ s2 (SCR + 1) 0 = σ (SCR + 1) 0 ∧ ∀ (d5 d6 : Option AV) (k n : Nat) (o : Rs), k + 6 ≤ room_1.cells ∧ n + 36 ≤ room_1.slots → (∀ d5 d6 k2 n2, k2 ≤ k + 6 → n2 ≤ n + 36 → C0_3927 x4 d5 d6 k2 n2 s2 o) → C0_23 x4 d5 d6 k n σ o := by
  generalize hv : (iAnd (σ SCR (x4).toNat) 63) = v
  by_cases c0 : v = 0
  · obtain ⟨kx, b, s1, s2, hA, hB, h1, h2, h3, h4, h5, h6, h7⟩ := o0 (σ := σ) (a1 := (σ SCR ((x4 + 1)).toNat)) (a2 := (σ SCR ((x4 + 2)).toNat)) (a3 := (σ SCR ((x4 + 3)).toNat)) R
    exact ⟨s2, h7, h5, h6, fun d5 d6 k n o hk hh => sw0 hi (hv.trans c0) (lc0 hi (by omega) hA hB h3 h4 h1 h2 (fun d5 d6 => hh _ _ _ _ (by omega) (by omega)))⟩
  by_cases c1 : v = 1
  · obtain ⟨kx, b, s1, s2, hA, hB, h1, h2, h3, h4, h5, h6, h7⟩ := o1 (σ := σ) (a1 := (σ SCR ((x4 + 1)).toNat)) (a2 := (σ SCR ((x4 + 2)).toNat)) R
    exact ⟨s2, h7, h5, h6, fun d5 d6 k n o hk hh => sw1 hi (hv.trans c1) (lc1 hi (by omega) hA hB h3 h4 h1 h2 (fun d5 d6 => hh _ _ _ _ (by omega) (by omega)))⟩
  by_cases c2 : v = 2
  · obtain ⟨kx, b, s1, s2, hA, hB, h1, h2, h3, h4, h5, h6, h7⟩ := o2 (σ := σ) (a1 := (σ SCR ((x4 + 1)).toNat)) (a2 := (σ SCR ((x4 + 2)).toNat)) R
    exact ⟨s2, h7, h5, h6, fun d5 d6 k n o hk hh => sw2 hi (hv.trans c2) (lc2 hi (by omega) hA hB h3 h4 h1 h2 (fun d5 d6 => hh _ _ _ _ (by omega) (by omega)))⟩
  by_cases c3 : v = 3
  · obtain ⟨kx, b, s1, s2, hA, hB, h1, h2, h3, h4, h5, h6, h7⟩ := o3 (σ := σ) (a1 := (σ SCR ((x4 + 1)).toNat)) R
    exact ⟨s2, h7, h5, h6, fun d5 d6 k n o hk hh => sw3 hi (hv.trans c3) (lc3 hi (by omega) hA hB h3 h4 h1 h2 (fun d5 d6 => hh _ _ _ _ (by omega) (by omega)))⟩
  by_cases c4 : v = 4
  · obtain ⟨kx, b, s1, s2, hA, hB, h1, h2, h3, h4, h5, h6, h7⟩ := o4 (σ := σ) (a1 := (σ SCR ((x4 + 1)).toNat)) (a2 := (σ SCR ((x4 + 2)).toNat)) R
    exact ⟨s2, h7, h5, h6, fun d5 d6 k n o hk hh => sw4 hi (hv.trans c4) (lc4 hi (by omega) hA hB h3 h4 h1 h2 (fun d5 d6 => hh _ _ _ _ (by omega) (by omega)))⟩
  by_cases c5 : v = 5
  · obtain ⟨kx, b, s1, s2, hA, hB, h1, h2, h3, h4, h5, h6, h7⟩ := o5 (σ := σ) (a1 := (σ SCR ((x4 + 1)).toNat)) (a2 := (σ SCR ((x4 + 2)).toNat)) R
    exact ⟨s2, h7, h5, h6, fun d5 d6 k n o hk hh => sw5 hi (hv.trans c5) (lc5 hi (by omega) hA hB h3 h4 h1 h2 (fun d5 d6 => hh _ _ _ _ (by omega) (by omega)))⟩
  by_cases c6 : v = 6
  · obtain ⟨kx, b, s1, s2, hA, hB, h1, h2, h3, h4, h5, h6, h7⟩ := o6 (σ := σ) (a1 := (σ SCR ((x4 + 1)).toNat)) (a2 := (σ SCR ((x4 + 2)).toNat)) (a3 := (σ SCR ((x4 + 3)).toNat)) (a4 := (σ SCR ((x4 + 4)).toNat)) R
    exact ⟨s2, h7, h5, h6, fun d5 d6 k n o hk hh => sw6 hi (hv.trans c6) (lc6 hi (by omega) hA hB h3 h4 h1 h2 (fun d5 d6 => hh _ _ _ _ (by omega) (by omega)))⟩
  by_cases c7 : v = 7
  · obtain ⟨kx, b, s1, s2, hA, hB, h1, h2, h3, h4, h5, h6, h7⟩ := o7 (σ := σ) (a1 := (σ SCR ((x4 + 1)).toNat)) (a2 := (σ SCR ((x4 + 2)).toNat)) (a3 := (σ SCR ((x4 + 3)).toNat)) R
    exact ⟨s2, h7, h5, h6, fun d5 d6 k n o hk hh => sw7 hi (hv.trans c7) (lc7 hi (by omega) hA hB h3 h4 h1 h2 (fun d5 d6 => hh _ _ _ _ (by omega) (by omega)))⟩
  by_cases c8 : v = 8
  · obtain ⟨kx, b, s1, s2, hA, hB, h1, h2, h3, h4, h5, h6, h7⟩ := o8 (σ := σ) (a1 := (σ SCR ((x4 + 1)).toNat)) (a2 := (σ SCR ((x4 + 2)).toNat)) R
    exact ⟨s2, h7, h5, h6, fun d5 d6 k n o hk hh => sw8 hi (hv.trans c8) (lc8 hi (by omega) hA hB h3 h4 h1 h2 (fun d5 d6 => hh _ _ _ _ (by omega) (by omega)))⟩
  by_cases c9 : v = 9
  · obtain ⟨kx, b, s1, s2, hA, hB, h1, h2, h3, h4, h5, h6, h7⟩ := o9 (σ := σ) (a1 := (σ SCR ((x4 + 1)).toNat)) (a2 := (σ SCR ((x4 + 2)).toNat)) (a3 := (σ SCR ((x4 + 3)).toNat)) R
    exact ⟨s2, h7, h5, h6, fun d5 d6 k n o hk hh => sw9 hi (hv.trans c9) (lc9 hi (by omega) hA hB h3 h4 h1 h2 (fun d5 d6 => hh _ _ _ _ (by omega) (by omega)))⟩
  by_cases c10 : v = 10
  · obtain ⟨kx, b, s1, s2, hA, hB, h1, h2, h3, h4, h5, h6, h7⟩ := o10 (σ := σ) (a1 := (σ SCR ((x4 + 1)).toNat)) R
    exact ⟨s2, h7, h5, h6, fun d5 d6 k n o hk hh => sw10 hi (hv.trans c10) (lc10 hi (by omega) hA hB h3 h4 h1 h2 (fun d5 d6 => hh _ _ _ _ (by omega) (by omega)))⟩
  by_cases c11 : v = 11
  · obtain ⟨kx, b, s1, s2, hA, hB, h1, h2, h3, h4, h5, h6, h7⟩ := o11 (σ := σ) (a1 := (σ SCR ((x4 + 1)).toNat)) (a2 := (σ SCR ((x4 + 2)).toNat)) R
    exact ⟨s2, h7, h5, h6, fun d5 d6 k n o hk hh => sw11 hi (hv.trans c11) (lc11 hi (by omega) hA hB h3 h4 h1 h2 (fun d5 d6 => hh _ _ _ _ (by omega) (by omega)))⟩
  by_cases c12 : v = 12
  · obtain ⟨kx, b, s1, s2, hA, hB, h1, h2, h3, h4, h5, h6, h7⟩ := o12 (σ := σ) (a1 := (σ SCR ((x4 + 1)).toNat)) (a2 := (σ SCR ((x4 + 2)).toNat)) R
    exact ⟨s2, h7, h5, h6, fun d5 d6 k n o hk hh => sw12 hi (hv.trans c12) (lc12 hi (by omega) hA hB h3 h4 h1 h2 (fun d5 d6 => hh _ _ _ _ (by omega) (by omega)))⟩
  by_cases c13 : v = 13
  · obtain ⟨kx, b, s1, s2, hA, hB, h1, h2, h3, h4, h5, h6, h7⟩ := o13 (σ := σ) (a1 := (σ SCR ((x4 + 1)).toNat)) (a2 := (σ SCR ((x4 + 2)).toNat)) (a3 := (if (σ SCR ((x4 + 3)).toNat) = 0 then 0 else 1)) R
    exact ⟨s2, h7, h5, h6, fun d5 d6 k n o hk hh => sw13 hi (hv.trans c13) (lc13 hi (by omega) hA hB h3 h4 h1 h2 (fun d5 d6 => hh _ _ _ _ (by omega) (by omega)))⟩
  by_cases c14 : v = 14
  · obtain ⟨kx, b, s1, s2, hA, hB, h1, h2, h3, h4, h5, h6, h7⟩ := o14 (σ := σ) (a1 := (σ SCR ((x4 + 1)).toNat)) (a2 := (σ SCR ((x4 + 2)).toNat)) (a3 := (σ SCR ((x4 + 3)).toNat)) (a4 := (σ SCR ((x4 + 4)).toNat)) (a5 := (if (σ SCR ((x4 + 5)).toNat) = 0 then 0 else 1)) R
    exact ⟨s2, h7, h5, h6, fun d5 d6 k n o hk hh => sw14 hi (hv.trans c14) (lc14 hi (by omega) hA hB h3 h4 h1 h2 (fun d5 d6 => hh _ _ _ _ (by omega) (by omega)))⟩
  by_cases c15 : v = 15
  · obtain ⟨kx, b, s1, s2, hA, hB, h1, h3, h4, h5, h6, h7⟩ := o15 (σ := σ) R
    exact ⟨s2, h7, h5, h6, fun d5 d6 k n o hk hh => sw15 hi (hv.trans c15) (lc15 hi (by omega) hA hB h3 h4 h1 (fun d5 d6 => hh _ _ _ _ (by omega) (by omega)))⟩
  by_cases c16 : v = 16
  · obtain ⟨kx, b, s1, s2, hA, hB, h1, h2, h3, h4, h5, h6, h7⟩ := o16 (σ := σ) (a1 := (σ SCR ((x4 + 1)).toNat)) (a2 := (if (σ SCR ((x4 + 2)).toNat) = 0 then 0 else 1)) (a3 := (σ SCR ((x4 + 3)).toNat)) R ite01
    exact ⟨s2, h7, h5, h6, fun d5 d6 k n o hk hh => sw16 hi (hv.trans c16) (lc16 hi (by omega) hA hB h3 h4 h1 h2 (fun d5 d6 => hh _ _ _ _ (by omega) (by omega)))⟩
  by_cases c17 : v = 17
  · obtain ⟨kx, b, s1, s2, hA, hB, h1, h2, h3, h4, h5, h6, h7⟩ := o17 (σ := σ) (a1 := (σ SCR ((x4 + 1)).toNat)) (a2 := (σ SCR ((x4 + 2)).toNat)) R
    exact ⟨s2, h7, h5, h6, fun d5 d6 k n o hk hh => sw17 hi (hv.trans c17) (lc17 hi (by omega) hA hB h3 h4 h1 h2 (fun d5 d6 => hh _ _ _ _ (by omega) (by omega)))⟩
  by_cases c18 : v = 18
  · obtain ⟨kx, b, s1, s2, hA, hB, h1, h2, h3, h4, h5, h6, h7⟩ := o18 (σ := σ) (a1 := (σ SCR ((x4 + 1)).toNat)) R
    exact ⟨s2, h7, h5, h6, fun d5 d6 k n o hk hh => sw18 hi (hv.trans c18) (lc18 hi (by omega) hA hB h3 h4 h1 h2 (fun d5 d6 => hh _ _ _ _ (by omega) (by omega)))⟩
  by_cases c19 : v = 19
  · obtain ⟨kx, b, s1, s2, hA, hB, h1, h2, h3, h4, h5, h6, h7⟩ := o19 (σ := σ) (a1 := (σ SCR ((x4 + 1)).toNat)) (a2 := (σ SCR ((x4 + 2)).toNat)) (a3 := (σ SCR ((x4 + 3)).toNat)) R
    exact ⟨s2, h7, h5, h6, fun d5 d6 k n o hk hh => sw19 hi (hv.trans c19) (lc19 hi (by omega) hA hB h3 h4 h1 h2 (fun d5 d6 => hh _ _ _ _ (by omega) (by omega)))⟩
  by_cases c20 : v = 20
  · obtain ⟨kx, b, s1, s2, hA, hB, h1, h2, h3, h4, h5, h6, h7⟩ := o20 (σ := σ) (a1 := (σ SCR ((x4 + 1)).toNat)) (a2 := (σ SCR ((x4 + 2)).toNat)) R
    exact ⟨s2, h7, h5, h6, fun d5 d6 k n o hk hh => sw20 hi (hv.trans c20) (lc20 hi (by omega) hA hB h3 h4 h1 h2 (fun d5 d6 => hh _ _ _ _ (by omega) (by omega)))⟩
  by_cases c21 : v = 21
  · obtain ⟨kx, b, s1, s2, hA, hB, h1, h2, h3, h4, h5, h6, h7⟩ := o21 (σ := σ) (a1 := (σ SCR ((x4 + 1)).toNat)) (a2 := (σ SCR ((x4 + 2)).toNat)) R
    exact ⟨s2, h7, h5, h6, fun d5 d6 k n o hk hh => sw21 hi (hv.trans c21) (lc21 hi (by omega) hA hB h3 h4 h1 h2 (fun d5 d6 => hh _ _ _ _ (by omega) (by omega)))⟩
  by_cases c22 : v = 22
  · obtain ⟨kx, b, s1, s2, hA, hB, h1, h2, h3, h4, h5, h6, h7⟩ := o22 (σ := σ) (a1 := (σ SCR ((x4 + 1)).toNat)) (a2 := (σ SCR ((x4 + 2)).toNat)) R
    exact ⟨s2, h7, h5, h6, fun d5 d6 k n o hk hh => sw22 hi (hv.trans c22) (lc22 hi (by omega) hA hB h3 h4 h1 h2 (fun d5 d6 => hh _ _ _ _ (by omega) (by omega)))⟩
  by_cases c23 : v = 23
  · obtain ⟨kx, b, s1, s2, hA, hB, h1, h2, h3, h4, h5, h6, h7⟩ := o23 (σ := σ) (a1 := (σ SCR ((x4 + 1)).toNat)) (a2 := (σ SCR ((x4 + 2)).toNat)) (a3 := (σ SCR ((x4 + 3)).toNat)) R
    exact ⟨s2, h7, h5, h6, fun d5 d6 k n o hk hh => sw23 hi (hv.trans c23) (lc23 hi (by omega) hA hB h3 h4 h1 h2 (fun d5 d6 => hh _ _ _ _ (by omega) (by omega)))⟩
  by_cases c24 : v = 24
  · obtain ⟨kx, b, s1, s2, hA, hB, h1, h2, h3, h4, h5, h6, h7⟩ := o24 (σ := σ) (a1 := (σ SCR ((x4 + 1)).toNat)) R
    exact ⟨s2, h7, h5, h6, fun d5 d6 k n o hk hh => sw24 hi (hv.trans c24) (lc24 hi (by omega) hA hB h3 h4 h1 h2 (fun d5 d6 => hh _ _ _ _ (by omega) (by omega)))⟩
  by_cases c25 : v = 25
  · obtain ⟨kx, b, s1, s2, hA, hB, h1, h2, h3, h4, h5, h6, h7⟩ := o25 (σ := σ) (a1 := (σ SCR ((x4 + 1)).toNat)) (a2 := (σ SCR ((x4 + 2)).toNat)) (a3 := (σ SCR ((x4 + 3)).toNat)) R
    exact ⟨s2, h7, h5, h6, fun d5 d6 k n o hk hh => sw25 hi (hv.trans c25) (lc25 hi (by omega) hA hB h3 h4 h1 h2 (fun d5 d6 => hh _ _ _ _ (by omega) (by omega)))⟩
  by_cases c26 : v = 26
  · obtain ⟨kx, b, s1, s2, hA, hB, h1, h2, h3, h4, h5, h6, h7⟩ := o26 (σ := σ) (a1 := (σ SCR ((x4 + 1)).toNat)) R
    exact ⟨s2, h7, h5, h6, fun d5 d6 k n o hk hh => sw26 hi (hv.trans c26) (lc26 hi (by omega) hA hB h3 h4 h1 h2 (fun d5 d6 => hh _ _ _ _ (by omega) (by omega)))⟩
  by_cases c27 : v = 27
  · obtain ⟨kx, b, s1, s2, hA, hB, h1, h2, h3, h4, h5, h6, h7⟩ := o27 (σ := σ) (a1 := (σ SCR ((x4 + 1)).toNat)) (a2 := (σ SCR ((x4 + 2)).toNat)) (a3 := (σ SCR ((x4 + 3)).toNat)) R
    exact ⟨s2, h7, h5, h6, fun d5 d6 k n o hk hh => sw27 hi (hv.trans c27) (lc27 hi (by omega) hA hB h3 h4 h1 h2 (fun d5 d6 => hh _ _ _ _ (by omega) (by omega)))⟩
  by_cases c28 : v = 28
  · obtain ⟨kx, b, s1, s2, hA, hB, h1, h2, h3, h4, h5, h6, h7⟩ := o28 (σ := σ) (a1 := (σ SCR ((x4 + 1)).toNat)) R
    exact ⟨s2, h7, h5, h6, fun d5 d6 k n o hk hh => sw28 hi (hv.trans c28) (lc28 hi (by omega) hA hB h3 h4 h1 h2 (fun d5 d6 => hh _ _ _ _ (by omega) (by omega)))⟩
  by_cases c29 : v = 29
  · obtain ⟨kx, b, s1, s2, hA, hB, h1, h2, h3, h4, h5, h6, h7⟩ := o29 (σ := σ) (a1 := (σ SCR ((x4 + 1)).toNat)) R (by omega)
    exact ⟨s2, h7, h5, h6, fun d5 d6 k n o hk hh => sw29 hi (hv.trans c29) (lc29 hi (by omega) hA hB h3 h4 h1 h2 (fun d5 d6 => hh _ _ _ _ (by omega) (by omega)))⟩
  by_cases c30 : v = 30
  · obtain ⟨kx, b, s1, s2, hA, hB, h1, h2, h3, h4, h5, h6, h7⟩ := o30 (σ := σ) R
    exact ⟨s2, h7, h5, h6, fun d5 d6 k n o hk hh => sw30 hi (hv.trans c30) (lc30 hi (by omega) hA hB h3 h4 h1 h2 (fun d5 d6 => hh _ _ _ _ (by omega) (by omega)))⟩
  by_cases c31 : v = 31
  · obtain ⟨kx, b, s1, s2, hA, hB, h1, h2, h3, h4, h5, h6, h7⟩ := o31 (σ := σ) (a1 := (σ SCR ((x4 + 1)).toNat)) R
    exact ⟨s2, h7, h5, h6, fun d5 d6 k n o hk hh => sw31 hi (hv.trans c31) (lc31 hi (by omega) hA hB h3 h4 h1 h2 (fun d5 d6 => hh _ _ _ _ (by omega) (by omega)))⟩
  by_cases c32 : v = 32
  · obtain ⟨kx, b, s1, s2, hA, hB, h1, h2, h3, h4, h5, h6, h7⟩ := o32 (σ := σ) (a1 := (σ SCR ((x4 + 1)).toNat)) R
    exact ⟨s2, h7, h5, h6, fun d5 d6 k n o hk hh => sw32 hi (hv.trans c32) (lc32 hi (by omega) hA hB h3 h4 h1 h2 (fun d5 d6 => hh _ _ _ _ (by omega) (by omega)))⟩
  by_cases c33 : v = 33
  · obtain ⟨kx, b, s1, s2, hA, hB, h1, h2, h3, h4, h5, h6, h7⟩ := o33 (σ := σ) (a1 := (σ SCR ((x4 + 1)).toNat)) R
    exact ⟨s2, h7, h5, h6, fun d5 d6 k n o hk hh => sw33 hi (hv.trans c33) (lc33 hi (by omega) hA hB h3 h4 h1 h2 (fun d5 d6 => hh _ _ _ _ (by omega) (by omega)))⟩
  by_cases c34 : v = 34
  · obtain ⟨kx, b, s1, s2, hA, hB, h1, h2, h3, h4, h5, h6, h7⟩ := o34 (σ := σ) (a1 := (σ SCR ((x4 + 1)).toNat)) (a2 := (σ SCR ((x4 + 2)).toNat)) (a3 := (σ SCR ((x4 + 3)).toNat)) R
    exact ⟨s2, h7, h5, h6, fun d5 d6 k n o hk hh => sw34 hi (hv.trans c34) (lc34 hi (by omega) hA hB h3 h4 h1 h2 (fun d5 d6 => hh _ _ _ _ (by omega) (by omega)))⟩
  by_cases c35 : v = 35
  · obtain ⟨kx, b, s1, s2, hA, hB, h1, h2, h3, h4, h5, h6, h7⟩ := o35 (σ := σ) (a1 := (σ SCR ((x4 + 1)).toNat)) (a2 := (σ SCR ((x4 + 2)).toNat)) R
    exact ⟨s2, h7, h5, h6, fun d5 d6 k n o hk hh => sw35 hi (hv.trans c35) (lc35 hi (by omega) hA hB h3 h4 h1 h2 (fun d5 d6 => hh _ _ _ _ (by omega) (by omega)))⟩
  by_cases c36 : v = 36
  · obtain ⟨kx, b, s1, s2, hA, hB, h1, h3, h4, h5, h6, h7⟩ := o36 (σ := σ) R
    exact ⟨s2, h7, h5, h6, fun d5 d6 k n o hk hh => sw36 hi (hv.trans c36) (lc36 hi (by omega) hA hB h3 h4 h1 (fun d5 d6 => hh _ _ _ _ (by omega) (by omega)))⟩
  by_cases c37 : v = 37
  · obtain ⟨kx, b, s1, s2, hA, hB, h1, h2, h3, h4, h5, h6, h7⟩ := o37 (σ := σ) (a1 := (σ SCR ((x4 + 1)).toNat)) R
    exact ⟨s2, h7, h5, h6, fun d5 d6 k n o hk hh => sw37 hi (hv.trans c37) (lc37 hi (by omega) hA hB h3 h4 h1 h2 (fun d5 d6 => hh _ _ _ _ (by omega) (by omega)))⟩
  by_cases c38 : v = 38
  · obtain ⟨kx, b, s1, s2, hA, hB, h1, h2, h3, h4, h5, h6, h7⟩ := o38 (σ := σ) (a1 := (σ SCR ((x4 + 1)).toNat)) R
    exact ⟨s2, h7, h5, h6, fun d5 d6 k n o hk hh => sw38 hi (hv.trans c38) (lc38 hi (by omega) hA hB h3 h4 h1 h2 (fun d5 d6 => hh _ _ _ _ (by omega) (by omega)))⟩
  by_cases c39 : v = 39
  · obtain ⟨kx, b, s1, s2, hA, hB, h1, h2, h3, h4, h5, h6, h7⟩ := o39 (σ := σ) (a1 := (σ SCR ((x4 + 1)).toNat)) R
    exact ⟨s2, h7, h5, h6, fun d5 d6 k n o hk hh => sw39 hi (hv.trans c39) (lc39 hi (by omega) hA hB h3 h4 h1 h2 (fun d5 d6 => hh _ _ _ _ (by omega) (by omega)))⟩
  by_cases c40 : v = 40
  · obtain ⟨kx, b, s1, s2, hA, hB, h1, h2, h3, h4, h5, h6, h7⟩ := o40 (σ := σ) R
    exact ⟨s2, h7, h5, h6, fun d5 d6 k n o hk hh => sw40 hi (hv.trans c40) (lc40 hi (by omega) hA hB h3 h4 h1 h2 (fun d5 d6 => hh _ _ _ _ (by omega) (by omega)))⟩
  by_cases c41 : v = 41
  · obtain ⟨kx, b, s1, s2, hA, hB, h1, h2, h3, h4, h5, h6, h7⟩ := o41 (σ := σ) (a1 := (σ SCR ((x4 + 1)).toNat)) R
    exact ⟨s2, h7, h5, h6, fun d5 d6 k n o hk hh => sw41 hi (hv.trans c41) (lc41 hi (by omega) hA hB h3 h4 h1 h2 (fun d5 d6 => hh _ _ _ _ (by omega) (by omega)))⟩
  by_cases c42 : v = 42
  · obtain ⟨kx, b, s1, s2, hA, hB, h1, h2, h3, h4, h5, h6, h7⟩ := o42 (σ := σ) (a1 := (σ SCR ((x4 + 1)).toNat)) R
    exact ⟨s2, h7, h5, h6, fun d5 d6 k n o hk hh => sw42 hi (hv.trans c42) (lc42 hi (by omega) hA hB h3 h4 h1 h2 (fun d5 d6 => hh _ _ _ _ (by omega) (by omega)))⟩
  by_cases c43 : v = 43
  · obtain ⟨kx, b, s1, s2, hA, hB, h1, h2, h3, h4, h5, h6, h7⟩ := o43 (σ := σ) (a1 := (σ SCR ((x4 + 1)).toNat)) (a2 := (σ SCR ((x4 + 2)).toNat)) (a3 := (σ SCR ((x4 + 3)).toNat)) R
    exact ⟨s2, h7, h5, h6, fun d5 d6 k n o hk hh => sw43 hi (hv.trans c43) (lc43 hi (by omega) hA hB h3 h4 h1 h2 (fun d5 d6 => hh _ _ _ _ (by omega) (by omega)))⟩
  by_cases c44 : v = 44
  · obtain ⟨kx, b, s1, s2, hA, hB, h1, h2, h3, h4, h5, h6, h7⟩ := o44 (σ := σ) (a1 := (σ SCR ((x4 + 1)).toNat)) (a2 := (σ SCR ((x4 + 2)).toNat)) R
    exact ⟨s2, h7, h5, h6, fun d5 d6 k n o hk hh => sw44 hi (hv.trans c44) (lc44 hi (by omega) hA hB h3 h4 h1 h2 (fun d5 d6 => hh _ _ _ _ (by omega) (by omega)))⟩
  by_cases c45 : v = 45
  · obtain ⟨kx, b, s1, s2, hA, hB, h1, h2, h3, h4, h5, h6, h7⟩ := o45 (σ := σ) (a1 := (σ SCR ((x4 + 1)).toNat)) (a2 := (σ SCR ((x4 + 2)).toNat)) R
    exact ⟨s2, h7, h5, h6, fun d5 d6 k n o hk hh => sw45 hi (hv.trans c45) (lc45 hi (by omega) hA hB h3 h4 h1 h2 (fun d5 d6 => hh _ _ _ _ (by omega) (by omega)))⟩
  by_cases c46 : v = 46
  · obtain ⟨kx, b, s1, s2, hA, hB, h1, h2, h3, h4, h5, h6, h7⟩ := o46 (σ := σ) (a1 := (σ SCR ((x4 + 1)).toNat)) (a2 := (σ SCR ((x4 + 2)).toNat)) R
    exact ⟨s2, h7, h5, h6, fun d5 d6 k n o hk hh => sw46 hi (hv.trans c46) (lc46 hi (by omega) hA hB h3 h4 h1 h2 (fun d5 d6 => hh _ _ _ _ (by omega) (by omega)))⟩
  by_cases c47 : v = 47
  · obtain ⟨kx, b, s1, s2, hA, hB, h1, h2, h3, h4, h5, h6, h7⟩ := o47 (σ := σ) (a1 := (σ SCR ((x4 + 1)).toNat)) (a2 := (σ SCR ((x4 + 2)).toNat)) R
    exact ⟨s2, h7, h5, h6, fun d5 d6 k n o hk hh => sw47 hi (hv.trans c47) (lc47 hi (by omega) hA hB h3 h4 h1 h2 (fun d5 d6 => hh _ _ _ _ (by omega) (by omega)))⟩
  by_cases c48 : v = 48
  · obtain ⟨kx, b, s1, s2, hA, hB, h1, h2, h3, h4, h5, h6, h7⟩ := o48 (σ := σ) (a1 := (σ SCR ((x4 + 1)).toNat)) R
    exact ⟨s2, h7, h5, h6, fun d5 d6 k n o hk hh => sw48 hi (hv.trans c48) (lc48 hi (by omega) hA hB h3 h4 h1 h2 (fun d5 d6 => hh _ _ _ _ (by omega) (by omega)))⟩
  by_cases c49 : v = 49
  · obtain ⟨kx, b, s1, s2, hA, hB, h1, h2, h3, h4, h5, h6, h7⟩ := o49 (σ := σ) (a1 := (σ SCR ((x4 + 1)).toNat)) (a2 := (σ SCR ((x4 + 2)).toNat)) R
    exact ⟨s2, h7, h5, h6, fun d5 d6 k n o hk hh => sw49 hi (hv.trans c49) (lc49 hi (by omega) hA hB h3 h4 h1 h2 (fun d5 d6 => hh _ _ _ _ (by omega) (by omega)))⟩
  by_cases c50 : v = 50
  · obtain ⟨kx, b, s1, s2, hA, hB, h1, h2, h3, h4, h5, h6, h7⟩ := o50 (σ := σ) (a1 := (σ SCR ((x4 + 1)).toNat)) (a2 := (σ SCR ((x4 + 2)).toNat)) R
    exact ⟨s2, h7, h5, h6, fun d5 d6 k n o hk hh => sw50 hi (hv.trans c50) (lc50 hi (by omega) hA hB h3 h4 h1 h2 (fun d5 d6 => hh _ _ _ _ (by omega) (by omega)))⟩
  by_cases c51 : v = 51
  · obtain ⟨kx, b, s1, s2, hA, hB, h1, h2, h3, h4, h5, h6, h7⟩ := o51 (σ := σ) (a1 := (σ SCR ((x4 + 1)).toNat)) (a2 := (σ SCR ((x4 + 2)).toNat)) R
    exact ⟨s2, h7, h5, h6, fun d5 d6 k n o hk hh => sw51 hi (hv.trans c51) (lc51 hi (by omega) hA hB h3 h4 h1 h2 (fun d5 d6 => hh _ _ _ _ (by omega) (by omega)))⟩
  by_cases c52 : v = 52
  · obtain ⟨kx, b, s1, s2, hA, hB, h1, h2, h3, h4, h5, h6, h7⟩ := o52 (σ := σ) (a1 := (σ SCR ((x4 + 1)).toNat)) R
    exact ⟨s2, h7, h5, h6, fun d5 d6 k n o hk hh => sw52 hi (hv.trans c52) (lc52 hi (by omega) hA hB h3 h4 h1 h2 (fun d5 d6 => hh _ _ _ _ (by omega) (by omega)))⟩
  by_cases c53 : v = 53
  · obtain ⟨kx, b, s1, s2, hA, hB, h1, h2, h3, h4, h5, h6, h7⟩ := o53 (σ := σ) (a1 := (σ SCR ((x4 + 1)).toNat)) (a2 := (σ SCR ((x4 + 2)).toNat)) R (hx _)
    exact ⟨s2, h7, h5, h6, fun d5 d6 k n o hk hh => sw53 hi (hv.trans c53) (lc53 hi (by omega) hA hB h3 h4 h1 h2 (fun d5 d6 => hh _ _ _ _ (by omega) (by omega)))⟩
  by_cases c54 : v = 54
  · obtain ⟨kx, b, s1, s2, hA, hB, h1, h2, h3, h4, h5, h6, h7⟩ := o54 (σ := σ) (a1 := (σ SCR ((x4 + 1)).toNat)) (a2 := (σ SCR ((x4 + 2)).toNat)) (a3 := (σ SCR ((x4 + 3)).toNat)) R
    exact ⟨s2, h7, h5, h6, fun d5 d6 k n o hk hh => sw54 hi (hv.trans c54) (lc54 hi (by omega) hA hB h3 h4 h1 h2 (fun d5 d6 => hh _ _ _ _ (by omega) (by omega)))⟩
  exact ⟨σ, Rel_0 (by omega) (fun _ _ _ => rfl) R, fun _ => rfl, rfl, fun d5 d6 k n o hk hh => swD hi (by omega) (hh _ _ _ _ (by omega) (by omega))⟩
theorem room_ok : 600000 ≤ room_1.cells ∧ 7000000 ≤ room_1.slots := by decide +kernel
theorem law_lp {Ls : Nat} (hL : Ls ≤ 3072) : ∀ (w c : Nat) (σ : Sg), Rel (c : Int) σ → σ (SCR + 1) 0 = (Ls : Int) → (∀ i, σ SCR i ≤ 2147483647) → c + w = 513 → ∃ s, ∀ (d5 d6 : Option AV) (k n : Nat), k ≤ 1540 + 6 * c → n ≤ 465283 + 36 * c → C0_23 ((6 * c : Nat) : Int) d5 d6 k n σ (.inl (some (.inl 1)), s) := by
  have rm := room_ok
  intro w
  induction w with
  | zero =>
    intro c σ R h1 h2 hc
    refine ⟨σ, fun d5 d6 k n hk hn => b0_23 ⟨by omega, ?_⟩⟩
    rw [if_neg (by omega)]
  | succ w ih =>
    intro c σ R h1 h2 hc
    by_cases y : ((6 * c : Nat) : Int) ≤ σ (SCR + 1) 0 - 6
    · obtain ⟨s2, r1, r2, r3, r4⟩ := law_it (x4 := ((6 * c : Nat) : Int)) R (by omega) (by omega) h2
      obtain ⟨s, hs⟩ := ih (c + 1) s2 (by rw [show ((c + 1 : Nat) : Int) = (c : Int) + 1 by omega]; exact r1) (by rw [r3]; exact h1) (fun i => by rw [r2]; exact h2 i) (by omega)
      refine ⟨s, fun d5 d6 k n hk hn => r4 d5 d6 k n _ (by omega) (fun d5 d6 k2 n2 u1 u2 => b0_3927 ⟨by omega, ?_⟩)⟩
      rw [show ((6 * c : Nat) : Int) + 6 = ((6 * (c + 1) : Nat) : Int) by omega]
      exact hs d5 d6 k2 n2 (by omega) (by omega)
    · refine ⟨σ, fun d5 d6 k n hk hn => b0_23 ⟨by omega, ?_⟩⟩
      rw [if_neg y]
theorem whole_run (Ls : Nat) (scr : Nat → Int) (hL : Ls ≤ 3072) (hs : ∀ j, inR (scr j) = true) : ∃ (nf : Nat) (h' : HP), run nf 0 (entryF 0 [.inr (.inr (some SCR))] ([], sig0 Ls scr)) = some (.inl (some (.inl 1)), h') := by
  have hl : sig0 Ls scr (SCR + 1) 0 = (Ls : Int) := by
    unfold sig0
    simp
  have hx : ∀ i, sig0 Ls scr SCR i ≤ 2147483647 := fun i => by
    have e : sig0 Ls scr SCR i = if i < Ls then scr i else 0 := if_pos rfl
    rw [e]
    by_cases y : i < Ls
    · rw [if_pos y]
      have z := hs i
      unfold inR at z
      rw [Bool.and_eq_true] at z
      exact of_decide_eq_true z.2
    · rw [if_neg y]; decide
  obtain ⟨s, h⟩ := law_lp hL 513 0 (sig0 Ls scr) (Rel_init Ls scr) hl hx rfl
  have h0 : C0_23 0 none none 1540 465283 (sig0 Ls scr) (.inl (some (.inl 1)), s) := h none none 1540 465283 (Nat.le_refl _) (Nat.le_refl _)
  obtain ⟨N, hN⟩ := start_0 Ls scr h0
  exact ⟨N, _, hN⟩
end
