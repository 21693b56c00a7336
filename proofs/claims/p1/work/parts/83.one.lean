noncomputable section
theorem one_iter {k n : Nat} {σ : Sg} (hz : ∀ a i, a < 1000 → σ a i = 0) (hL : σ (SCR + 1) 0 = 6) (hk : k + 6 ≤ room_1.cells ∧ n + 36 ≤ room_1.slots) : ∃ s2 : Sg, s2 (SCR + 1) 0 = σ (SCR + 1) 0 ∧ ∀ o, (∀ d5 d6 k2 n2, C0_3927 0 d5 d6 k2 n2 s2 o) → C0_23 0 none none k n σ o := by
  have hi : (0 : Int) ≤ 0 ∧ (0 : Int) + 5 < σ (SCR + 1) 0 ∧ σ (SCR + 1) 0 ≤ 3072 := by omega
  generalize hv : (iAnd (σ SCR ((0 : Int)).toNat) 63) = v
  by_cases c0 : v = 0
  · obtain ⟨kx, b, s1, s2, hA, hB, h1, h2, h3, h4, h5⟩ := q0 (σ := σ) (a1 := (σ SCR (((0 : Int) + 1)).toNat)) (a2 := (σ SCR (((0 : Int) + 2)).toNat)) (a3 := (σ SCR (((0 : Int) + 3)).toNat)) hz
    exact ⟨s2, h5, fun o H => sw0 hi (hv.trans c0) (lc0 hi (by omega) hA hB h3 h4 h1 h2 (fun d5 d6 => H _ _ _ _))⟩
  by_cases c1 : v = 1
  · obtain ⟨kx, b, s1, s2, hA, hB, h1, h2, h3, h4, h5⟩ := q1 (σ := σ) (a1 := (σ SCR (((0 : Int) + 1)).toNat)) (a2 := (σ SCR (((0 : Int) + 2)).toNat)) hz
    exact ⟨s2, h5, fun o H => sw1 hi (hv.trans c1) (lc1 hi (by omega) hA hB h3 h4 h1 h2 (fun d5 d6 => H _ _ _ _))⟩
  by_cases c2 : v = 2
  · obtain ⟨kx, b, s1, s2, hA, hB, h1, h2, h3, h4, h5⟩ := q2 (σ := σ) (a1 := (σ SCR (((0 : Int) + 1)).toNat)) (a2 := (σ SCR (((0 : Int) + 2)).toNat)) hz
    exact ⟨s2, h5, fun o H => sw2 hi (hv.trans c2) (lc2 hi (by omega) hA hB h3 h4 h1 h2 (fun d5 d6 => H _ _ _ _))⟩
  by_cases c3 : v = 3
  · obtain ⟨kx, b, s1, s2, hA, hB, h1, h2, h3, h4, h5⟩ := q3 (σ := σ) (a1 := (σ SCR (((0 : Int) + 1)).toNat)) hz
    exact ⟨s2, h5, fun o H => sw3 hi (hv.trans c3) (lc3 hi (by omega) hA hB h3 h4 h1 h2 (fun d5 d6 => H _ _ _ _))⟩
  by_cases c4 : v = 4
  · obtain ⟨kx, b, s1, s2, hA, hB, h1, h2, h3, h4, h5⟩ := q4 (σ := σ) (a1 := (σ SCR (((0 : Int) + 1)).toNat)) (a2 := (σ SCR (((0 : Int) + 2)).toNat)) hz
    exact ⟨s2, h5, fun o H => sw4 hi (hv.trans c4) (lc4 hi (by omega) hA hB h3 h4 h1 h2 (fun d5 d6 => H _ _ _ _))⟩
  by_cases c5 : v = 5
  · obtain ⟨kx, b, s1, s2, hA, hB, h1, h2, h3, h4, h5⟩ := q5 (σ := σ) (a1 := (σ SCR (((0 : Int) + 1)).toNat)) (a2 := (σ SCR (((0 : Int) + 2)).toNat)) hz
    exact ⟨s2, h5, fun o H => sw5 hi (hv.trans c5) (lc5 hi (by omega) hA hB h3 h4 h1 h2 (fun d5 d6 => H _ _ _ _))⟩
  by_cases c6 : v = 6
  · obtain ⟨kx, b, s1, s2, hA, hB, h1, h2, h3, h4, h5⟩ := q6 (σ := σ) (a1 := (σ SCR (((0 : Int) + 1)).toNat)) (a2 := (σ SCR (((0 : Int) + 2)).toNat)) (a3 := (σ SCR (((0 : Int) + 3)).toNat)) (a4 := (σ SCR (((0 : Int) + 4)).toNat)) hz
    exact ⟨s2, h5, fun o H => sw6 hi (hv.trans c6) (lc6 hi (by omega) hA hB h3 h4 h1 h2 (fun d5 d6 => H _ _ _ _))⟩
  by_cases c7 : v = 7
  · obtain ⟨kx, b, s1, s2, hA, hB, h1, h2, h3, h4, h5⟩ := q7 (σ := σ) (a1 := (σ SCR (((0 : Int) + 1)).toNat)) (a2 := (σ SCR (((0 : Int) + 2)).toNat)) (a3 := (σ SCR (((0 : Int) + 3)).toNat)) hz
    exact ⟨s2, h5, fun o H => sw7 hi (hv.trans c7) (lc7 hi (by omega) hA hB h3 h4 h1 h2 (fun d5 d6 => H _ _ _ _))⟩
  by_cases c8 : v = 8
  · obtain ⟨kx, b, s1, s2, hA, hB, h1, h2, h3, h4, h5⟩ := q8 (σ := σ) (a1 := (σ SCR (((0 : Int) + 1)).toNat)) (a2 := (σ SCR (((0 : Int) + 2)).toNat)) hz
    exact ⟨s2, h5, fun o H => sw8 hi (hv.trans c8) (lc8 hi (by omega) hA hB h3 h4 h1 h2 (fun d5 d6 => H _ _ _ _))⟩
  by_cases c9 : v = 9
  · obtain ⟨kx, b, s1, s2, hA, hB, h1, h2, h3, h4, h5⟩ := q9 (σ := σ) (a1 := (σ SCR (((0 : Int) + 1)).toNat)) (a2 := (σ SCR (((0 : Int) + 2)).toNat)) (a3 := (σ SCR (((0 : Int) + 3)).toNat)) hz
    exact ⟨s2, h5, fun o H => sw9 hi (hv.trans c9) (lc9 hi (by omega) hA hB h3 h4 h1 h2 (fun d5 d6 => H _ _ _ _))⟩
  by_cases c10 : v = 10
  · obtain ⟨kx, b, s1, s2, hA, hB, h1, h2, h3, h4, h5⟩ := q10 (σ := σ) (a1 := (σ SCR (((0 : Int) + 1)).toNat)) hz
    exact ⟨s2, h5, fun o H => sw10 hi (hv.trans c10) (lc10 hi (by omega) hA hB h3 h4 h1 h2 (fun d5 d6 => H _ _ _ _))⟩
  by_cases c11 : v = 11
  · obtain ⟨kx, b, s1, s2, hA, hB, h1, h2, h3, h4, h5⟩ := q11 (σ := σ) (a1 := (σ SCR (((0 : Int) + 1)).toNat)) (a2 := (σ SCR (((0 : Int) + 2)).toNat)) hz
    exact ⟨s2, h5, fun o H => sw11 hi (hv.trans c11) (lc11 hi (by omega) hA hB h3 h4 h1 h2 (fun d5 d6 => H _ _ _ _))⟩
  by_cases c12 : v = 12
  · obtain ⟨kx, b, s1, s2, hA, hB, h1, h2, h3, h4, h5⟩ := q12 (σ := σ) (a1 := (σ SCR (((0 : Int) + 1)).toNat)) (a2 := (σ SCR (((0 : Int) + 2)).toNat)) hz
    exact ⟨s2, h5, fun o H => sw12 hi (hv.trans c12) (lc12 hi (by omega) hA hB h3 h4 h1 h2 (fun d5 d6 => H _ _ _ _))⟩
  by_cases c13 : v = 13
  · obtain ⟨kx, b, s1, s2, hA, hB, h1, h2, h3, h4, h5⟩ := q13 (σ := σ) (a1 := (σ SCR (((0 : Int) + 1)).toNat)) (a2 := (σ SCR (((0 : Int) + 2)).toNat)) (a3 := (if (σ SCR (((0 : Int) + 3)).toNat) = 0 then 0 else 1)) hz
    exact ⟨s2, h5, fun o H => sw13 hi (hv.trans c13) (lc13 hi (by omega) hA hB h3 h4 h1 h2 (fun d5 d6 => H _ _ _ _))⟩
  by_cases c14 : v = 14
  · obtain ⟨kx, b, s1, s2, hA, hB, h1, h2, h3, h4, h5⟩ := q14 (σ := σ) (a1 := (σ SCR (((0 : Int) + 1)).toNat)) (a2 := (σ SCR (((0 : Int) + 2)).toNat)) (a3 := (σ SCR (((0 : Int) + 3)).toNat)) (a4 := (σ SCR (((0 : Int) + 4)).toNat)) (a5 := (if (σ SCR (((0 : Int) + 5)).toNat) = 0 then 0 else 1)) hz
    exact ⟨s2, h5, fun o H => sw14 hi (hv.trans c14) (lc14 hi (by omega) hA hB h3 h4 h1 h2 (fun d5 d6 => H _ _ _ _))⟩
  by_cases c15 : v = 15
  · obtain ⟨kx, b, s1, s2, hA, hB, h1, h2, h3, h4⟩ := q15 (σ := σ) hz
    exact ⟨s2, h4, fun o H => sw15 hi (hv.trans c15) (lc15 hi (by omega) hA hB h2 h3 h1 (fun d5 d6 => H _ _ _ _))⟩
  by_cases c16 : v = 16
  · obtain ⟨kx, b, s1, s2, hA, hB, h1, h2, h3, h4, h5⟩ := q16 (σ := σ) (a1 := (σ SCR (((0 : Int) + 1)).toNat)) (a2 := (if (σ SCR (((0 : Int) + 2)).toNat) = 0 then 0 else 1)) (a3 := (σ SCR (((0 : Int) + 3)).toNat)) hz
    exact ⟨s2, h5, fun o H => sw16 hi (hv.trans c16) (lc16 hi (by omega) hA hB h3 h4 h1 h2 (fun d5 d6 => H _ _ _ _))⟩
  by_cases c17 : v = 17
  · obtain ⟨kx, b, s1, s2, hA, hB, h1, h2, h3, h4, h5⟩ := q17 (σ := σ) (a1 := (σ SCR (((0 : Int) + 1)).toNat)) (a2 := (σ SCR (((0 : Int) + 2)).toNat)) hz
    exact ⟨s2, h5, fun o H => sw17 hi (hv.trans c17) (lc17 hi (by omega) hA hB h3 h4 h1 h2 (fun d5 d6 => H _ _ _ _))⟩
  by_cases c18 : v = 18
  · obtain ⟨kx, b, s1, s2, hA, hB, h1, h2, h3, h4, h5⟩ := q18 (σ := σ) (a1 := (σ SCR (((0 : Int) + 1)).toNat)) hz
    exact ⟨s2, h5, fun o H => sw18 hi (hv.trans c18) (lc18 hi (by omega) hA hB h3 h4 h1 h2 (fun d5 d6 => H _ _ _ _))⟩
  by_cases c19 : v = 19
  · obtain ⟨kx, b, s1, s2, hA, hB, h1, h2, h3, h4, h5⟩ := q19 (σ := σ) (a1 := (σ SCR (((0 : Int) + 1)).toNat)) (a2 := (σ SCR (((0 : Int) + 2)).toNat)) (a3 := (σ SCR (((0 : Int) + 3)).toNat)) hz
    exact ⟨s2, h5, fun o H => sw19 hi (hv.trans c19) (lc19 hi (by omega) hA hB h3 h4 h1 h2 (fun d5 d6 => H _ _ _ _))⟩
  by_cases c20 : v = 20
  · obtain ⟨kx, b, s1, s2, hA, hB, h1, h2, h3, h4, h5⟩ := q20 (σ := σ) (a1 := (σ SCR (((0 : Int) + 1)).toNat)) (a2 := (σ SCR (((0 : Int) + 2)).toNat)) hz
    exact ⟨s2, h5, fun o H => sw20 hi (hv.trans c20) (lc20 hi (by omega) hA hB h3 h4 h1 h2 (fun d5 d6 => H _ _ _ _))⟩
  by_cases c21 : v = 21
  · obtain ⟨kx, b, s1, s2, hA, hB, h1, h2, h3, h4, h5⟩ := q21 (σ := σ) (a1 := (σ SCR (((0 : Int) + 1)).toNat)) (a2 := (σ SCR (((0 : Int) + 2)).toNat)) hz
    exact ⟨s2, h5, fun o H => sw21 hi (hv.trans c21) (lc21 hi (by omega) hA hB h3 h4 h1 h2 (fun d5 d6 => H _ _ _ _))⟩
  by_cases c22 : v = 22
  · obtain ⟨kx, b, s1, s2, hA, hB, h1, h2, h3, h4, h5⟩ := q22 (σ := σ) (a1 := (σ SCR (((0 : Int) + 1)).toNat)) (a2 := (σ SCR (((0 : Int) + 2)).toNat)) hz
    exact ⟨s2, h5, fun o H => sw22 hi (hv.trans c22) (lc22 hi (by omega) hA hB h3 h4 h1 h2 (fun d5 d6 => H _ _ _ _))⟩
  by_cases c23 : v = 23
  · obtain ⟨kx, b, s1, s2, hA, hB, h1, h2, h3, h4, h5⟩ := q23 (σ := σ) (a1 := (σ SCR (((0 : Int) + 1)).toNat)) (a2 := (σ SCR (((0 : Int) + 2)).toNat)) (a3 := (σ SCR (((0 : Int) + 3)).toNat)) hz
    exact ⟨s2, h5, fun o H => sw23 hi (hv.trans c23) (lc23 hi (by omega) hA hB h3 h4 h1 h2 (fun d5 d6 => H _ _ _ _))⟩
  by_cases c24 : v = 24
  · obtain ⟨kx, b, s1, s2, hA, hB, h1, h2, h3, h4, h5⟩ := q24 (σ := σ) (a1 := (σ SCR (((0 : Int) + 1)).toNat)) hz
    exact ⟨s2, h5, fun o H => sw24 hi (hv.trans c24) (lc24 hi (by omega) hA hB h3 h4 h1 h2 (fun d5 d6 => H _ _ _ _))⟩
  by_cases c25 : v = 25
  · obtain ⟨kx, b, s1, s2, hA, hB, h1, h2, h3, h4, h5⟩ := q25 (σ := σ) (a1 := (σ SCR (((0 : Int) + 1)).toNat)) (a2 := (σ SCR (((0 : Int) + 2)).toNat)) (a3 := (σ SCR (((0 : Int) + 3)).toNat)) hz
    exact ⟨s2, h5, fun o H => sw25 hi (hv.trans c25) (lc25 hi (by omega) hA hB h3 h4 h1 h2 (fun d5 d6 => H _ _ _ _))⟩
  by_cases c26 : v = 26
  · obtain ⟨kx, b, s1, s2, hA, hB, h1, h2, h3, h4, h5⟩ := q26 (σ := σ) (a1 := (σ SCR (((0 : Int) + 1)).toNat)) hz
    exact ⟨s2, h5, fun o H => sw26 hi (hv.trans c26) (lc26 hi (by omega) hA hB h3 h4 h1 h2 (fun d5 d6 => H _ _ _ _))⟩
  by_cases c27 : v = 27
  · obtain ⟨kx, b, s1, s2, hA, hB, h1, h2, h3, h4, h5⟩ := q27 (σ := σ) (a1 := (σ SCR (((0 : Int) + 1)).toNat)) (a2 := (σ SCR (((0 : Int) + 2)).toNat)) (a3 := (σ SCR (((0 : Int) + 3)).toNat)) hz
    exact ⟨s2, h5, fun o H => sw27 hi (hv.trans c27) (lc27 hi (by omega) hA hB h3 h4 h1 h2 (fun d5 d6 => H _ _ _ _))⟩
  by_cases c28 : v = 28
  · obtain ⟨kx, b, s1, s2, hA, hB, h1, h2, h3, h4, h5⟩ := q28 (σ := σ) (a1 := (σ SCR (((0 : Int) + 1)).toNat)) hz
    exact ⟨s2, h5, fun o H => sw28 hi (hv.trans c28) (lc28 hi (by omega) hA hB h3 h4 h1 h2 (fun d5 d6 => H _ _ _ _))⟩
  by_cases c29 : v = 29
  · obtain ⟨kx, b, s1, s2, hA, hB, h1, h2, h3, h4, h5⟩ := q29 (σ := σ) (a1 := (σ SCR (((0 : Int) + 1)).toNat)) hz
    exact ⟨s2, h5, fun o H => sw29 hi (hv.trans c29) (lc29 hi (by omega) hA hB h3 h4 h1 h2 (fun d5 d6 => H _ _ _ _))⟩
  by_cases c30 : v = 30
  · obtain ⟨kx, b, s1, s2, hA, hB, h1, h2, h3, h4, h5⟩ := q30 (σ := σ) hz
    exact ⟨s2, h5, fun o H => sw30 hi (hv.trans c30) (lc30 hi (by omega) hA hB h3 h4 h1 h2 (fun d5 d6 => H _ _ _ _))⟩
  by_cases c31 : v = 31
  · obtain ⟨kx, b, s1, s2, hA, hB, h1, h2, h3, h4, h5⟩ := q31 (σ := σ) (a1 := (σ SCR (((0 : Int) + 1)).toNat)) hz
    exact ⟨s2, h5, fun o H => sw31 hi (hv.trans c31) (lc31 hi (by omega) hA hB h3 h4 h1 h2 (fun d5 d6 => H _ _ _ _))⟩
  by_cases c32 : v = 32
  · obtain ⟨kx, b, s1, s2, hA, hB, h1, h2, h3, h4, h5⟩ := q32 (σ := σ) (a1 := (σ SCR (((0 : Int) + 1)).toNat)) hz
    exact ⟨s2, h5, fun o H => sw32 hi (hv.trans c32) (lc32 hi (by omega) hA hB h3 h4 h1 h2 (fun d5 d6 => H _ _ _ _))⟩
  by_cases c33 : v = 33
  · obtain ⟨kx, b, s1, s2, hA, hB, h1, h2, h3, h4, h5⟩ := q33 (σ := σ) (a1 := (σ SCR (((0 : Int) + 1)).toNat)) hz
    exact ⟨s2, h5, fun o H => sw33 hi (hv.trans c33) (lc33 hi (by omega) hA hB h3 h4 h1 h2 (fun d5 d6 => H _ _ _ _))⟩
  by_cases c34 : v = 34
  · obtain ⟨kx, b, s1, s2, hA, hB, h1, h2, h3, h4, h5⟩ := q34 (σ := σ) (a1 := (σ SCR (((0 : Int) + 1)).toNat)) (a2 := (σ SCR (((0 : Int) + 2)).toNat)) (a3 := (σ SCR (((0 : Int) + 3)).toNat)) hz
    exact ⟨s2, h5, fun o H => sw34 hi (hv.trans c34) (lc34 hi (by omega) hA hB h3 h4 h1 h2 (fun d5 d6 => H _ _ _ _))⟩
  by_cases c35 : v = 35
  · obtain ⟨kx, b, s1, s2, hA, hB, h1, h2, h3, h4, h5⟩ := q35 (σ := σ) (a1 := (σ SCR (((0 : Int) + 1)).toNat)) (a2 := (σ SCR (((0 : Int) + 2)).toNat)) hz
    exact ⟨s2, h5, fun o H => sw35 hi (hv.trans c35) (lc35 hi (by omega) hA hB h3 h4 h1 h2 (fun d5 d6 => H _ _ _ _))⟩
  by_cases c36 : v = 36
  · obtain ⟨kx, b, s1, s2, hA, hB, h1, h2, h3, h4⟩ := q36 (σ := σ) hz
    exact ⟨s2, h4, fun o H => sw36 hi (hv.trans c36) (lc36 hi (by omega) hA hB h2 h3 h1 (fun d5 d6 => H _ _ _ _))⟩
  by_cases c37 : v = 37
  · obtain ⟨kx, b, s1, s2, hA, hB, h1, h2, h3, h4, h5⟩ := q37 (σ := σ) (a1 := (σ SCR (((0 : Int) + 1)).toNat)) hz
    exact ⟨s2, h5, fun o H => sw37 hi (hv.trans c37) (lc37 hi (by omega) hA hB h3 h4 h1 h2 (fun d5 d6 => H _ _ _ _))⟩
  by_cases c38 : v = 38
  · obtain ⟨kx, b, s1, s2, hA, hB, h1, h2, h3, h4, h5⟩ := q38 (σ := σ) (a1 := (σ SCR (((0 : Int) + 1)).toNat)) hz
    exact ⟨s2, h5, fun o H => sw38 hi (hv.trans c38) (lc38 hi (by omega) hA hB h3 h4 h1 h2 (fun d5 d6 => H _ _ _ _))⟩
  by_cases c39 : v = 39
  · obtain ⟨kx, b, s1, s2, hA, hB, h1, h2, h3, h4, h5⟩ := q39 (σ := σ) (a1 := (σ SCR (((0 : Int) + 1)).toNat)) hz
    exact ⟨s2, h5, fun o H => sw39 hi (hv.trans c39) (lc39 hi (by omega) hA hB h3 h4 h1 h2 (fun d5 d6 => H _ _ _ _))⟩
  by_cases c40 : v = 40
  · obtain ⟨kx, b, s1, s2, hA, hB, h1, h2, h3, h4, h5⟩ := q40 (σ := σ) hz
    exact ⟨s2, h5, fun o H => sw40 hi (hv.trans c40) (lc40 hi (by omega) hA hB h3 h4 h1 h2 (fun d5 d6 => H _ _ _ _))⟩
  by_cases c41 : v = 41
  · obtain ⟨kx, b, s1, s2, hA, hB, h1, h2, h3, h4, h5⟩ := q41 (σ := σ) (a1 := (σ SCR (((0 : Int) + 1)).toNat)) hz
    exact ⟨s2, h5, fun o H => sw41 hi (hv.trans c41) (lc41 hi (by omega) hA hB h3 h4 h1 h2 (fun d5 d6 => H _ _ _ _))⟩
  by_cases c42 : v = 42
  · obtain ⟨kx, b, s1, s2, hA, hB, h1, h2, h3, h4, h5⟩ := q42 (σ := σ) (a1 := (σ SCR (((0 : Int) + 1)).toNat)) hz
    exact ⟨s2, h5, fun o H => sw42 hi (hv.trans c42) (lc42 hi (by omega) hA hB h3 h4 h1 h2 (fun d5 d6 => H _ _ _ _))⟩
  by_cases c43 : v = 43
  · obtain ⟨kx, b, s1, s2, hA, hB, h1, h2, h3, h4, h5⟩ := q43 (σ := σ) (a1 := (σ SCR (((0 : Int) + 1)).toNat)) (a2 := (σ SCR (((0 : Int) + 2)).toNat)) (a3 := (σ SCR (((0 : Int) + 3)).toNat)) hz
    exact ⟨s2, h5, fun o H => sw43 hi (hv.trans c43) (lc43 hi (by omega) hA hB h3 h4 h1 h2 (fun d5 d6 => H _ _ _ _))⟩
  by_cases c44 : v = 44
  · obtain ⟨kx, b, s1, s2, hA, hB, h1, h2, h3, h4, h5⟩ := q44 (σ := σ) (a1 := (σ SCR (((0 : Int) + 1)).toNat)) (a2 := (σ SCR (((0 : Int) + 2)).toNat)) hz
    exact ⟨s2, h5, fun o H => sw44 hi (hv.trans c44) (lc44 hi (by omega) hA hB h3 h4 h1 h2 (fun d5 d6 => H _ _ _ _))⟩
  by_cases c45 : v = 45
  · obtain ⟨kx, b, s1, s2, hA, hB, h1, h2, h3, h4, h5⟩ := q45 (σ := σ) (a1 := (σ SCR (((0 : Int) + 1)).toNat)) (a2 := (σ SCR (((0 : Int) + 2)).toNat)) hz
    exact ⟨s2, h5, fun o H => sw45 hi (hv.trans c45) (lc45 hi (by omega) hA hB h3 h4 h1 h2 (fun d5 d6 => H _ _ _ _))⟩
  by_cases c46 : v = 46
  · obtain ⟨kx, b, s1, s2, hA, hB, h1, h2, h3, h4, h5⟩ := q46 (σ := σ) (a1 := (σ SCR (((0 : Int) + 1)).toNat)) (a2 := (σ SCR (((0 : Int) + 2)).toNat)) hz
    exact ⟨s2, h5, fun o H => sw46 hi (hv.trans c46) (lc46 hi (by omega) hA hB h3 h4 h1 h2 (fun d5 d6 => H _ _ _ _))⟩
  by_cases c47 : v = 47
  · obtain ⟨kx, b, s1, s2, hA, hB, h1, h2, h3, h4, h5⟩ := q47 (σ := σ) (a1 := (σ SCR (((0 : Int) + 1)).toNat)) (a2 := (σ SCR (((0 : Int) + 2)).toNat)) hz
    exact ⟨s2, h5, fun o H => sw47 hi (hv.trans c47) (lc47 hi (by omega) hA hB h3 h4 h1 h2 (fun d5 d6 => H _ _ _ _))⟩
  by_cases c48 : v = 48
  · obtain ⟨kx, b, s1, s2, hA, hB, h1, h2, h3, h4, h5⟩ := q48 (σ := σ) (a1 := (σ SCR (((0 : Int) + 1)).toNat)) hz
    exact ⟨s2, h5, fun o H => sw48 hi (hv.trans c48) (lc48 hi (by omega) hA hB h3 h4 h1 h2 (fun d5 d6 => H _ _ _ _))⟩
  by_cases c49 : v = 49
  · obtain ⟨kx, b, s1, s2, hA, hB, h1, h2, h3, h4, h5⟩ := q49 (σ := σ) (a1 := (σ SCR (((0 : Int) + 1)).toNat)) (a2 := (σ SCR (((0 : Int) + 2)).toNat)) hz
    exact ⟨s2, h5, fun o H => sw49 hi (hv.trans c49) (lc49 hi (by omega) hA hB h3 h4 h1 h2 (fun d5 d6 => H _ _ _ _))⟩
  by_cases c50 : v = 50
  · obtain ⟨kx, b, s1, s2, hA, hB, h1, h2, h3, h4, h5⟩ := q50 (σ := σ) (a1 := (σ SCR (((0 : Int) + 1)).toNat)) (a2 := (σ SCR (((0 : Int) + 2)).toNat)) hz
    exact ⟨s2, h5, fun o H => sw50 hi (hv.trans c50) (lc50 hi (by omega) hA hB h3 h4 h1 h2 (fun d5 d6 => H _ _ _ _))⟩
  by_cases c51 : v = 51
  · obtain ⟨kx, b, s1, s2, hA, hB, h1, h2, h3, h4, h5⟩ := q51 (σ := σ) (a1 := (σ SCR (((0 : Int) + 1)).toNat)) (a2 := (σ SCR (((0 : Int) + 2)).toNat)) hz
    exact ⟨s2, h5, fun o H => sw51 hi (hv.trans c51) (lc51 hi (by omega) hA hB h3 h4 h1 h2 (fun d5 d6 => H _ _ _ _))⟩
  by_cases c52 : v = 52
  · obtain ⟨kx, b, s1, s2, hA, hB, h1, h2, h3, h4, h5⟩ := q52 (σ := σ) (a1 := (σ SCR (((0 : Int) + 1)).toNat)) hz
    exact ⟨s2, h5, fun o H => sw52 hi (hv.trans c52) (lc52 hi (by omega) hA hB h3 h4 h1 h2 (fun d5 d6 => H _ _ _ _))⟩
  by_cases c53 : v = 53
  · obtain ⟨kx, b, s1, s2, hA, hB, h1, h2, h3, h4, h5⟩ := q53 (σ := σ) (a1 := (σ SCR (((0 : Int) + 1)).toNat)) (a2 := (σ SCR (((0 : Int) + 2)).toNat)) hz
    exact ⟨s2, h5, fun o H => sw53 hi (hv.trans c53) (lc53 hi (by omega) hA hB h3 h4 h1 h2 (fun d5 d6 => H _ _ _ _))⟩
  by_cases c54 : v = 54
  · obtain ⟨kx, b, s1, s2, hA, hB, h1, h2, h3, h4, h5⟩ := q54 (σ := σ) (a1 := (σ SCR (((0 : Int) + 1)).toNat)) (a2 := (σ SCR (((0 : Int) + 2)).toNat)) (a3 := (σ SCR (((0 : Int) + 3)).toNat)) hz
    exact ⟨s2, h5, fun o H => sw54 hi (hv.trans c54) (lc54 hi (by omega) hA hB h3 h4 h1 h2 (fun d5 d6 => H _ _ _ _))⟩
  refine ⟨σ, rfl, fun o H => swD hi (by rw [hv]; omega) (H _ _ _ _)⟩
theorem one_run (Ls : Nat) (scr : Nat → Int) (hL : Ls ≤ 6) : ∃ (nf : Nat) (h' : HP), run nf 0 (entryF 0 [.inr (.inr (some SCR))] ([], sig0 Ls scr)) = some (.inl (some (.inl 1)), h') := by
  have hz : ∀ a i, a < 1000 → sig0 Ls scr a i = 0 := by
    intro a i ha
    unfold sig0
    have h1 : ¬ a = SCR := fun e => SCR_ne ha e.symm
    have h2 : ¬ a = SCR + 1 := fun e => SCR1_ne ha e.symm
    simp [h1, h2]
  have hl : sig0 Ls scr (SCR + 1) 0 = (Ls : Int) := by
    unfold sig0
    simp
  have fin : ∃ σ' : Sg, C0_23 0 none none 1540 465283 (sig0 Ls scr) (rI 1 σ') := by
    by_cases h6 : Ls = 6
    · obtain ⟨s2, g1, g2⟩ := one_iter (k := 1540) (n := 465283) hz (by rw [hl, h6]; rfl) (by decide +kernel)
      refine ⟨s2, g2 _ ?_⟩
      intro d5 d6 k2 n2
      refine b0_3927 ⟨by omega, b0_23 ?_⟩
      rw [g1, hl, h6]
      refine ⟨by omega, ?_⟩
      rw [if_neg (by omega)]
    · refine ⟨sig0 Ls scr, b0_23 ?_⟩
      rw [hl]
      refine ⟨by omega, ?_⟩
      rw [if_neg (by omega)]
  obtain ⟨σ', h⟩ := fin
  obtain ⟨N, hN⟩ := start_0 Ls scr h
  exact ⟨N, _, hN⟩
end
