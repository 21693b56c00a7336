-- DRAFT a1bc.lean
noncomputable section
def K267_18 (x2 : Int) (x3 : Int) (d4 : Option AV) (d5 : Option AV) (d6 : Option AV) (d7 : Option AV) (y0 : Int) (w : WS) (r : Nat) (o : Ro) : Prop := Lg 267 18 [(some (.inr (.inr (some 0)))), (some (.inr (.inr (some 682)))), (some (.inl x2)), (some (.inl x3)), d4, d5, d6, d7] [(.inl y0)] w r o
def K267_40 (x2 : Int) (x3 : Int) (x4 : Int) (d5 : Option AV) (d6 : Option AV) (d7 : Option AV) (y0 : Int) (w : WS) (r : Nat) (o : Ro) : Prop := Lg 267 40 [(some (.inr (.inr (some 0)))), (some (.inr (.inr (some 682)))), (some (.inl x2)), (some (.inl x3)), (some (.inl x4)), d5, d6, d7] [(.inl y0)] w r o
def K267_88 (d2 : Option AV) (x3 : Int) (d4 : Option AV) (d5 : Option AV) (d6 : Option AV) (d7 : Option AV) (w : WS) (r : Nat) (o : Ro) : Prop := Lg 267 88 [(some (.inr (.inr (some 0)))), (some (.inr (.inr (some 682)))), d2, (some (.inl x3)), d4, d5, d6, d7] [] w r o
def K267_192 (d2 : Option AV) (x3 : Int) (d4 : Option AV) (x5 : Int) (d6 : Option AV) (d7 : Option AV) (w : WS) (r : Nat) (o : Ro) : Prop := Lg 267 192 [(some (.inr (.inr (some 0)))), (some (.inr (.inr (some 682)))), d2, (some (.inl x3)), d4, (some (.inl x5)), d6, d7] [] w r o
def K267_246 (x2 : Int) (d3 : Option AV) (d4 : Option AV) (d5 : Option AV) (d6 : Option AV) (d7 : Option AV) (w : WS) (r : Nat) (o : Ro) : Prop := Lg 267 246 [(some (.inr (.inr (some 0)))), (some (.inr (.inr (some 682)))), (some (.inl x2)), d3, d4, d5, d6, d7] [] w r o
def K267_277 (x2 : Int) (x3 : Int) (d4 : Option AV) (d5 : Option AV) (d6 : Option AV) (d7 : Option AV) (w : WS) (r : Nat) (o : Ro) : Prop := Lg 267 277 [(some (.inr (.inr (some 0)))), (some (.inr (.inr (some 682)))), (some (.inl x2)), (some (.inl x3)), d4, d5, d6, d7] [] w r o
def K267_379 (d2 : Option AV) (x3 : Int) (d4 : Option AV) (d5 : Option AV) (d6 : Option AV) (d7 : Option AV) (w : WS) (r : Nat) (o : Ro) : Prop := Lg 267 379 [(some (.inr (.inr (some 0)))), (some (.inr (.inr (some 682)))), d2, (some (.inl x3)), d4, d5, d6, d7] [] w r o
def K267_448 (d2 : Option AV) (x3 : Int) (x4 : Int) (d5 : Option AV) (d6 : Option AV) (d7 : Option AV) (w : WS) (r : Nat) (o : Ro) : Prop := Lg 267 448 [(some (.inr (.inr (some 0)))), (some (.inr (.inr (some 682)))), d2, (some (.inl x3)), (some (.inl x4)), d5, d6, d7] [] w r o
def K267_112 (d2 : Option AV) (x3 : Int) (d4 : Option AV) (d5 : Option AV) (d6 : Option AV) (d7 : Option AV) (w : WS) (r : Nat) (o : Ro) : Prop := Lg 267 112 [(some (.inr (.inr (some 0)))), (some (.inr (.inr (some 682)))), d2, (some (.inl x3)), d4, d5, d6, d7] [] w r o
def K267_100 (d2 : Option AV) (x3 : Int) (d4 : Option AV) (d5 : Option AV) (d6 : Option AV) (d7 : Option AV) (w : WS) (r : Nat) (o : Ro) : Prop := Lg 267 100 [(some (.inr (.inr (some 0)))), (some (.inr (.inr (some 682)))), d2, (some (.inl x3)), d4, d5, d6, d7] [] w r o
def K267_204 (d2 : Option AV) (d3 : Option AV) (d4 : Option AV) (d5 : Option AV) (d6 : Option AV) (d7 : Option AV) (w : WS) (r : Nat) (o : Ro) : Prop := Lg 267 204 [(some (.inr (.inr (some 0)))), (some (.inr (.inr (some 682)))), d2, d3, d4, d5, d6, d7] [] w r o
def K267_245 (d0 : Option AV) (d1 : Option AV) (d2 : Option AV) (d3 : Option AV) (d4 : Option AV) (d5 : Option AV) (d6 : Option AV) (d7 : Option AV) (y0 : Int) (w : WS) (r : Nat) (o : Ro) : Prop := Lg 267 245 [d0, d1, d2, d3, d4, d5, d6, d7] [(.inl y0)] w r o
def K267_276 (d0 : Option AV) (d1 : Option AV) (d2 : Option AV) (d3 : Option AV) (d4 : Option AV) (d5 : Option AV) (d6 : Option AV) (d7 : Option AV) (y0 : Int) (w : WS) (r : Nat) (o : Ro) : Prop := Lg 267 276 [d0, d1, d2, d3, d4, d5, d6, d7] [(.inl y0)] w r o
def K267_271 (d0 : Option AV) (d1 : Option AV) (d2 : Option AV) (d3 : Option AV) (d4 : Option AV) (d5 : Option AV) (d6 : Option AV) (d7 : Option AV) (w : WS) (r : Nat) (o : Ro) : Prop := Lg 267 271 [d0, d1, d2, d3, d4, d5, d6, d7] [] w r o
def K267_290 (d2 : Option AV) (d3 : Option AV) (d4 : Option AV) (d5 : Option AV) (d6 : Option AV) (d7 : Option AV) (w : WS) (r : Nat) (o : Ro) : Prop := Lg 267 290 [(some (.inr (.inr (some 0)))), (some (.inr (.inr (some 682)))), d2, d3, d4, d5, d6, d7] [] w r o
def K267_324 (d2 : Option AV) (d3 : Option AV) (d4 : Option AV) (d5 : Option AV) (x6 : Int) (x7 : Int) (w : WS) (r : Nat) (o : Ro) : Prop := Lg 267 324 [(some (.inr (.inr (some 0)))), (some (.inr (.inr (some 682)))), d2, d3, d4, d5, (some (.inl x6)), (some (.inl x7))] [] w r o
def K267_397 (d0 : Option AV) (d1 : Option AV) (d2 : Option AV) (d3 : Option AV) (d4 : Option AV) (d5 : Option AV) (d6 : Option AV) (d7 : Option AV) (y0 : Int) (w : WS) (r : Nat) (o : Ro) : Prop := Lg 267 397 [d0, d1, d2, d3, d4, d5, d6, d7] [(.inl y0)] w r o
def K267_446 (d0 : Option AV) (d1 : Option AV) (d2 : Option AV) (d3 : Option AV) (d4 : Option AV) (d5 : Option AV) (d6 : Option AV) (d7 : Option AV) (w : WS) (r : Nat) (o : Ro) : Prop := Lg 267 446 [d0, d1, d2, d3, d4, d5, d6, d7] [] w r o
def K267_447 (d0 : Option AV) (d1 : Option AV) (d2 : Option AV) (d3 : Option AV) (d4 : Option AV) (d5 : Option AV) (d6 : Option AV) (d7 : Option AV) (y0 : Int) (w : WS) (r : Nat) (o : Ro) : Prop := Lg 267 447 [d0, d1, d2, d3, d4, d5, d6, d7] [(.inl y0)] w r o
def K267_473 (d0 : Option AV) (d1 : Option AV) (d2 : Option AV) (d3 : Option AV) (d4 : Option AV) (d5 : Option AV) (d6 : Option AV) (d7 : Option AV) (w : WS) (r : Nat) (o : Ro) : Prop := Lg 267 473 [d0, d1, d2, d3, d4, d5, d6, d7] [] w r o
def K267_478 (d0 : Option AV) (d1 : Option AV) (d2 : Option AV) (d3 : Option AV) (d4 : Option AV) (d5 : Option AV) (d6 : Option AV) (d7 : Option AV) (y0 : Int) (w : WS) (r : Nat) (o : Ro) : Prop := Lg 267 478 [d0, d1, d2, d3, d4, d5, d6, d7] [(.inl y0)] w r o
def K267_148 (d0 : Option AV) (d1 : Option AV) (d2 : Option AV) (d3 : Option AV) (d4 : Option AV) (d5 : Option AV) (d6 : Option AV) (d7 : Option AV) (y0 : Int) (w : WS) (r : Nat) (o : Ro) : Prop := Lg 267 148 [d0, d1, d2, d3, d4, d5, d6, d7] [(.inl y0)] w r o
def K267_149 (d2 : Option AV) (x3 : Int) (d4 : Option AV) (d5 : Option AV) (d6 : Option AV) (d7 : Option AV) (w : WS) (r : Nat) (o : Ro) : Prop := Lg 267 149 [(some (.inr (.inr (some 0)))), (some (.inr (.inr (some 682)))), d2, (some (.inl x3)), d4, d5, d6, d7] [] w r o
def K267_219 (d0 : Option AV) (d1 : Option AV) (d2 : Option AV) (d3 : Option AV) (d4 : Option AV) (d5 : Option AV) (d6 : Option AV) (d7 : Option AV) (y0 : Int) (w : WS) (r : Nat) (o : Ro) : Prop := Lg 267 219 [d0, d1, d2, d3, d4, d5, d6, d7] [(.inl y0)] w r o
def K267_305 (d0 : Option AV) (d1 : Option AV) (d2 : Option AV) (d3 : Option AV) (d4 : Option AV) (d5 : Option AV) (d6 : Option AV) (d7 : Option AV) (y0 : Int) (w : WS) (r : Nat) (o : Ro) : Prop := Lg 267 305 [d0, d1, d2, d3, d4, d5, d6, d7] [(.inl y0)] w r o
def K267_378 (d0 : Option AV) (d1 : Option AV) (d2 : Option AV) (d3 : Option AV) (d4 : Option AV) (d5 : Option AV) (d6 : Option AV) (d7 : Option AV) (y0 : Int) (w : WS) (r : Nat) (o : Ro) : Prop := Lg 267 378 [d0, d1, d2, d3, d4, d5, d6, d7] [(.inl y0)] w r o
def K267_186 (d0 : Option AV) (d1 : Option AV) (d2 : Option AV) (d3 : Option AV) (d4 : Option AV) (d5 : Option AV) (d6 : Option AV) (d7 : Option AV) (w : WS) (r : Nat) (o : Ro) : Prop := Lg 267 186 [d0, d1, d2, d3, d4, d5, d6, d7] [] w r o
def K267_191 (d0 : Option AV) (d1 : Option AV) (d2 : Option AV) (d3 : Option AV) (d4 : Option AV) (d5 : Option AV) (d6 : Option AV) (d7 : Option AV) (y0 : Int) (w : WS) (r : Nat) (o : Ro) : Prop := Lg 267 191 [d0, d1, d2, d3, d4, d5, d6, d7] [(.inl y0)] w r o
theorem bK267_18 {x2 : Int} {x3 : Int} {d4 : Option AV} {d5 : Option AV} {d6 : Option AV} {d7 : Option AV} {y0 : Int} {w : WS} {r : Nat} {o : Ro} (h : (w.1[0]? = some (0, 12, [])) ∧ (0 ≤ (3 : Int) ∧ (3 : Int) < 12) ∧ (¬ ((w.2.1 682 ((3 : Int)).toNat) = 0) → w.1[0]? = some (0, 12, [])) ∧ (¬ ((w.2.1 682 ((3 : Int)).toNat) = 0) → 0 ≤ (3 : Int) ∧ (3 : Int) < 12) ∧ (¬ ((w.2.1 682 ((3 : Int)).toNat) = 0) → -2147483648 ≤ (6 + (w.2.1 682 ((3 : Int)).toNat)) ∧ (6 + (w.2.1 682 ((3 : Int)).toNat)) ≤ 2147483647) ∧ (¬ ((w.2.1 682 ((3 : Int)).toNat) = 0) → -2147483648 ≤ ((6 + (w.2.1 682 ((3 : Int)).toNat)) - 1) ∧ ((6 + (w.2.1 682 ((3 : Int)).toNat)) - 1) ≤ 2147483647) ∧ (¬ ((w.2.1 682 ((3 : Int)).toNat) = 0) → w.1[0]? = some (0, 12, [])) ∧ (¬ ((w.2.1 682 ((3 : Int)).toNat) = 0) → 0 ≤ ((6 + (w.2.1 682 ((3 : Int)).toNat)) - 1) ∧ ((6 + (w.2.1 682 ((3 : Int)).toNat)) - 1) < 12) ∧ K267_40 x2 x3 y0 d5 d6 d7 (if (w.2.1 682 ((3 : Int)).toNat) = 0 then (-1) else (w.2.1 682 (((6 + (w.2.1 682 ((3 : Int)).toNat)) - 1)).toNat)) w r o) : K267_18 x2 x3 d4 d5 d6 d7 y0 w r o := by
  show Lg 267 18 [(some (.inr (.inr (some 0)))), (some (.inr (.inr (some 682)))), (some (.inl x2)), (some (.inl x3)), d4, d5, d6, d7] [(.inl y0)] w r o
  refine zq_istore 20 [(some (.inr (.inr (some 0)))), (some (.inr (.inr (some 682)))), (some (.inl x2)), (some (.inl x3)), (some (.inl y0)), d5, d6, d7] (show zop 267 18 = some (.istore 4, 2) by decide +kernel) rfl rfl rfl ?_
  refine zq_aload_n 21 (show zop 267 20 = some (.aload_n 1, 1) by decide +kernel) rfl rfl ?_
  refine zq_iconst 22 (show zop 267 21 = some (.iconst 3, 1) by decide +kernel) rfl rfl ?_
  obtain ⟨g3, h⟩ := h
  obtain ⟨g1, h⟩ := h
  refine zq_iaload 23 12 (show zop 267 22 = some (.iaload, 1) by decide +kernel) rfl (by decide) g3 g1 ?_
  obtain ⟨G13, G14, G15, G16, G17, G18, h⟩ := h
  by_cases hc12 : (w.2.1 682 ((3 : Int)).toNat) = 0
  · refine zq_ifF 26 30 (show zop 267 23 = some (.ifCond .ne 7, 3) by decide +kernel) rfl rfl (decide_eq_false (fun h9 => h9 hc12)) ?_
    refine zq_iconst 27 (show zop 267 26 = some (.iconst (-1), 1) by decide +kernel) rfl rfl ?_
    refine zq_goto 40 (show zop 267 27 = some (.goto 13, 3) by decide +kernel) rfl ?_
    have h9 := h; simp only [if_pos hc12] at h9; exact h9
  · refine zq_ifT 30 (show zop 267 23 = some (.ifCond .ne 7, 3) by decide +kernel) rfl (decide_eq_true hc12) ?_
    refine zq_aload_n 31 (show zop 267 30 = some (.aload_n 1, 1) by decide +kernel) rfl rfl ?_
    refine zq_bipush 33 (show zop 267 31 = some (.bipush 6, 2) by decide +kernel) rfl (by decide) ?_
    refine zq_aload_n 34 (show zop 267 33 = some (.aload_n 1, 1) by decide +kernel) rfl rfl ?_
    refine zq_iconst 35 (show zop 267 34 = some (.iconst 3, 1) by decide +kernel) rfl rfl ?_
    have g6 := G13 hc12
    have g4 := G14 hc12
    refine zq_iaload 36 12 (show zop 267 35 = some (.iaload, 1) by decide +kernel) rfl (by decide) g6 g4 ?_
    have g7 := G15 hc12
    refine zq_iadd 37 (show zop 267 36 = some (.iadd, 1) by decide +kernel) rfl g7 ?_
    refine zq_iconst 38 (show zop 267 37 = some (.iconst 1, 1) by decide +kernel) rfl rfl ?_
    have g8 := G16 hc12
    refine zq_isub 39 (show zop 267 38 = some (.isub, 1) by decide +kernel) rfl g8 ?_
    have g11 := G17 hc12
    have g9 := G18 hc12
    refine zq_iaload 40 12 (show zop 267 39 = some (.iaload, 1) by decide +kernel) rfl (by decide) g11 g9 ?_
    have h9 := h; simp only [if_neg hc12] at h9; exact h9
theorem bK267_40 {x2 : Int} {x3 : Int} {x4 : Int} {d5 : Option AV} {d6 : Option AV} {d7 : Option AV} {y0 : Int} {w : WS} {r : Nat} {o : Ro} (h : ((Int.tmod x2 8) = 0 → K267_88 (some (.inl x2)) x3 (some (.inl x4)) (some (.inl y0)) d6 d7 w r o) ∧ ((Int.tmod x2 8) = 1 → K267_88 (some (.inl x2)) x3 (some (.inl x4)) (some (.inl y0)) d6 d7 w r o) ∧ ((Int.tmod x2 8) = 2 → K267_88 (some (.inl x2)) x3 (some (.inl x4)) (some (.inl y0)) d6 d7 w r o) ∧ ((Int.tmod x2 8) = 3 → K267_192 (some (.inl x2)) x3 (some (.inl x4)) y0 d6 d7 w r o) ∧ ((Int.tmod x2 8) = 4 → K267_246 x2 (some (.inl x3)) (some (.inl x4)) (some (.inl y0)) d6 d7 w r o) ∧ ((Int.tmod x2 8) = 5 → K267_277 x2 x3 (some (.inl x4)) (some (.inl y0)) d6 d7 w r o) ∧ ((Int.tmod x2 8) = 6 → K267_379 (some (.inl x2)) x3 (some (.inl x4)) (some (.inl y0)) d6 d7 w r o) ∧ ((Int.tmod x2 8) < 0 ∨ 6 < (Int.tmod x2 8) → K267_448 (some (.inl x2)) x3 x4 (some (.inl y0)) d6 d7 w r o)) : K267_40 x2 x3 x4 d5 d6 d7 y0 w r o := by
  show Lg 267 40 [(some (.inr (.inr (some 0)))), (some (.inr (.inr (some 682)))), (some (.inl x2)), (some (.inl x3)), (some (.inl x4)), d5, d6, d7] [(.inl y0)] w r o
  refine zq_istore 42 [(some (.inr (.inr (some 0)))), (some (.inr (.inr (some 682)))), (some (.inl x2)), (some (.inl x3)), (some (.inl x4)), (some (.inl y0)), d6, d7] (show zop 267 40 = some (.istore 5, 2) by decide +kernel) rfl rfl rfl ?_
  refine zq_iload_n 43 (show zop 267 42 = some (.iload_n 2, 1) by decide +kernel) rfl rfl ?_
  refine zq_bipush 45 (show zop 267 43 = some (.bipush 8, 2) by decide +kernel) rfl (by decide) ?_
  refine zq_irem 46 (show zop 267 45 = some (.irem, 1) by decide +kernel) rfl (by decide) ?_
  obtain ⟨c0, c1, c2, c3, c4, c5, c6, cD⟩ := h
  have hsw : (Int.tmod x2 8) = 0 ∨ (Int.tmod x2 8) = 1 ∨ (Int.tmod x2 8) = 2 ∨ (Int.tmod x2 8) = 3 ∨ (Int.tmod x2 8) = 4 ∨ (Int.tmod x2 8) = 5 ∨ (Int.tmod x2 8) = 6 ∨ ((Int.tmod x2 8) < 0 ∨ 6 < (Int.tmod x2 8)) := by omega
  rcases hsw with h8 | h8 | h8 | h8 | h8 | h8 | h8 | h8
  · exact zq_swI 0 88 (show zop 267 46 = some (.tableswitch 402 0 6 #[42, 42, 42, 146, 200, 231, 333], 42) by decide +kernel) (by decide +kernel) h8 (c0 h8)
  · exact zq_swI 1 88 (show zop 267 46 = some (.tableswitch 402 0 6 #[42, 42, 42, 146, 200, 231, 333], 42) by decide +kernel) (by decide +kernel) h8 (c1 h8)
  · exact zq_swI 2 88 (show zop 267 46 = some (.tableswitch 402 0 6 #[42, 42, 42, 146, 200, 231, 333], 42) by decide +kernel) (by decide +kernel) h8 (c2 h8)
  · exact zq_swI 3 192 (show zop 267 46 = some (.tableswitch 402 0 6 #[42, 42, 42, 146, 200, 231, 333], 42) by decide +kernel) (by decide +kernel) h8 (c3 h8)
  · exact zq_swI 4 246 (show zop 267 46 = some (.tableswitch 402 0 6 #[42, 42, 42, 146, 200, 231, 333], 42) by decide +kernel) (by decide +kernel) h8 (c4 h8)
  · exact zq_swI 5 277 (show zop 267 46 = some (.tableswitch 402 0 6 #[42, 42, 42, 146, 200, 231, 333], 42) by decide +kernel) (by decide +kernel) h8 (c5 h8)
  · exact zq_swI 6 379 (show zop 267 46 = some (.tableswitch 402 0 6 #[42, 42, 42, 146, 200, 231, 333], 42) by decide +kernel) (by decide +kernel) h8 (c6 h8)
  · exact zq_swD 448 (show zop 267 46 = some (.tableswitch 402 0 6 #[42, 42, 42, 146, 200, 231, 333], 42) by decide +kernel) rfl h8 (cD h8)
theorem bK267_88 {d2 : Option AV} {x3 : Int} {d4 : Option AV} {d5 : Option AV} {d6 : Option AV} {d7 : Option AV} {w : WS} {r : Nat} {o : Ro} (h : (w.1[0]? = some (0, 12, [])) ∧ (0 ≤ (3 : Int) ∧ (3 : Int) < 12) ∧ (if (w.2.1 682 ((3 : Int)).toNat) = 0 then (if (Int.tmod x3 3) = 0 then K267_112 d2 x3 d4 d5 d6 d7 w r o else K267_100 d2 x3 d4 d5 d6 d7 w r o) else K267_100 d2 x3 d4 d5 d6 d7 w r o)) : K267_88 d2 x3 d4 d5 d6 d7 w r o := by
  show Lg 267 88 [(some (.inr (.inr (some 0)))), (some (.inr (.inr (some 682)))), d2, (some (.inl x3)), d4, d5, d6, d7] [] w r o
  refine zq_aload_n 89 (show zop 267 88 = some (.aload_n 1, 1) by decide +kernel) rfl rfl ?_
  refine zq_iconst 90 (show zop 267 89 = some (.iconst 3, 1) by decide +kernel) rfl rfl ?_
  obtain ⟨g3, h⟩ := h
  obtain ⟨g1, h⟩ := h
  refine zq_iaload 91 12 (show zop 267 90 = some (.iaload, 1) by decide +kernel) rfl (by decide) g3 g1 ?_
  by_cases hc4 : (w.2.1 682 ((3 : Int)).toNat) = 0
  · rw [if_pos hc4] at h
    refine zq_ifF 94 100 (show zop 267 91 = some (.ifCond .ne 9, 3) by decide +kernel) rfl rfl (decide_eq_false (fun h9 => h9 hc4)) ?_
    refine zq_iload_n 95 (show zop 267 94 = some (.iload_n 3, 1) by decide +kernel) rfl rfl ?_
    refine zq_iconst 96 (show zop 267 95 = some (.iconst 3, 1) by decide +kernel) rfl rfl ?_
    refine zq_irem 97 (show zop 267 96 = some (.irem, 1) by decide +kernel) rfl (by decide) ?_
    by_cases hc5 : (Int.tmod x3 3) = 0
    · rw [if_pos hc5] at h
      refine zq_ifT 112 (show zop 267 97 = some (.ifCond .eq 15, 3) by decide +kernel) rfl (decide_eq_true hc5) ?_
      exact h
    · rw [if_neg hc5] at h
      refine zq_ifF 100 112 (show zop 267 97 = some (.ifCond .eq 15, 3) by decide +kernel) rfl rfl (decide_eq_false hc5) ?_
      exact h
  · rw [if_neg hc4] at h
    refine zq_ifT 100 (show zop 267 91 = some (.ifCond .ne 9, 3) by decide +kernel) rfl (decide_eq_true hc4) ?_
    exact h
theorem bK267_192 {d2 : Option AV} {x3 : Int} {d4 : Option AV} {x5 : Int} {d6 : Option AV} {d7 : Option AV} {w : WS} {r : Nat} {o : Ro} (h : (w.1[0]? = some (0, 12, [])) ∧ (0 ≤ (3 : Int) ∧ (3 : Int) < 12) ∧ (if (w.2.1 682 ((3 : Int)).toNat) = 0 then K267_204 d2 (some (.inl x3)) d4 (some (.inl x5)) d6 d7 w r o else (if 0 < (Int.tmod x3 3) then K267_204 d2 (some (.inl x3)) d4 (some (.inl x5)) d6 d7 w r o else (w.1[0]? = some (0, 12, [])) ∧ (0 ≤ (3 : Int) ∧ (3 : Int) < 12) ∧ (-2147483648 ≤ ((w.2.1 682 ((3 : Int)).toNat) - 1) ∧ ((w.2.1 682 ((3 : Int)).toNat) - 1) ≤ 2147483647) ∧ (w.1[0]? = some (0, 12, [])) ∧ (0 ≤ (3 : Int) ∧ (3 : Int) < 12) ∧ ((wU w 682 ((3 : Int)).toNat ((w.2.1 682 ((3 : Int)).toNat) - 1)).1[0]? = some (0, 12, [])) ∧ (0 ≤ (5 : Int) ∧ (5 : Int) < 12) ∧ (1 ≤ r) ∧ (∃ (v15 : Int) (s14 : Sg), Dc 202 [(.inr (.inr (some 0)))] (wU (wU w 682 ((3 : Int)).toNat ((w.2.1 682 ((3 : Int)).toNat) - 1)) 682 ((5 : Int)).toNat 0).2.2 (.inl (some (.inl v15))) s14 ∧ K267_245 (some (.inr (.inr (some 0)))) (some (.inr (.inr (some 682)))) d2 (some (.inl x3)) d4 (some (.inl x5)) d6 d7 (if v15 = x5 then 1 else 0) (wS (wU (wU w 682 ((3 : Int)).toNat ((w.2.1 682 ((3 : Int)).toNat) - 1)) 682 ((5 : Int)).toNat 0) s14) (r - 1) o)))) : K267_192 d2 x3 d4 x5 d6 d7 w r o := by
  show Lg 267 192 [(some (.inr (.inr (some 0)))), (some (.inr (.inr (some 682)))), d2, (some (.inl x3)), d4, (some (.inl x5)), d6, d7] [] w r o
  refine zq_aload_n 193 (show zop 267 192 = some (.aload_n 1, 1) by decide +kernel) rfl rfl ?_
  refine zq_iconst 194 (show zop 267 193 = some (.iconst 3, 1) by decide +kernel) rfl rfl ?_
  obtain ⟨g3, h⟩ := h
  obtain ⟨g1, h⟩ := h
  refine zq_iaload 195 12 (show zop 267 194 = some (.iaload, 1) by decide +kernel) rfl (by decide) g3 g1 ?_
  by_cases hc18 : (w.2.1 682 ((3 : Int)).toNat) = 0
  · rw [if_pos hc18] at h
    refine zq_ifT 204 (show zop 267 195 = some (.ifCond .eq 9, 3) by decide +kernel) rfl (decide_eq_true hc18) ?_
    exact h
  · rw [if_neg hc18] at h
    refine zq_ifF 198 204 (show zop 267 195 = some (.ifCond .eq 9, 3) by decide +kernel) rfl rfl (decide_eq_false hc18) ?_
    refine zq_iload_n 199 (show zop 267 198 = some (.iload_n 3, 1) by decide +kernel) rfl rfl ?_
    refine zq_iconst 200 (show zop 267 199 = some (.iconst 3, 1) by decide +kernel) rfl rfl ?_
    refine zq_irem 201 (show zop 267 200 = some (.irem, 1) by decide +kernel) rfl (by decide) ?_
    by_cases hc19 : 0 < (Int.tmod x3 3)
    · rw [if_pos hc19] at h
      refine zq_ifF 204 220 (show zop 267 201 = some (.ifCond .le 19, 3) by decide +kernel) rfl rfl (decide_eq_false (Int.not_le.mpr hc19)) ?_
      exact h
    · rw [if_neg hc19] at h
      refine zq_ifT 220 (show zop 267 201 = some (.ifCond .le 19, 3) by decide +kernel) rfl (decide_eq_true (Int.not_lt.mp hc19)) ?_
      refine zq_aload_n 221 (show zop 267 220 = some (.aload_n 1, 1) by decide +kernel) rfl rfl ?_
      refine zq_iconst 222 (show zop 267 221 = some (.iconst 3, 1) by decide +kernel) rfl rfl ?_
      refine zq_dup2 223 (show zop 267 222 = some (.dup2, 1) by decide +kernel) rfl rfl rfl ?_
      obtain ⟨g6, h⟩ := h
      obtain ⟨g4, h⟩ := h
      refine zq_iaload 224 12 (show zop 267 223 = some (.iaload, 1) by decide +kernel) rfl (by decide) g6 g4 ?_
      refine zq_iconst 225 (show zop 267 224 = some (.iconst 1, 1) by decide +kernel) rfl rfl ?_
      obtain ⟨g7, h⟩ := h
      refine zq_isub 226 (show zop 267 225 = some (.isub, 1) by decide +kernel) rfl g7 ?_
      obtain ⟨g10, h⟩ := h
      obtain ⟨g8, h⟩ := h
      refine zq_iastore 227 12 (show zop 267 226 = some (.iastore, 1) by decide +kernel) rfl (by decide) g10 g8 ?_
      refine zq_aload_n 228 (show zop 267 227 = some (.aload_n 1, 1) by decide +kernel) rfl rfl ?_
      refine zq_iconst 229 (show zop 267 228 = some (.iconst 5, 1) by decide +kernel) rfl rfl ?_
      refine zq_iconst 230 (show zop 267 229 = some (.iconst 0, 1) by decide +kernel) rfl rfl ?_
      obtain ⟨g13, h⟩ := h
      obtain ⟨g11, h⟩ := h
      refine zq_iastore 231 12 (show zop 267 230 = some (.iastore, 1) by decide +kernel) rfl (by decide) g13 g11 ?_
      refine zq_aload_n 232 (show zop 267 231 = some (.aload_n 0, 1) by decide +kernel) rfl rfl ?_
      obtain ⟨g17, h⟩ := h
      obtain ⟨v15, s14, hD16, h⟩ := h
      refine zq_vi (v := some (.inl v15)) (σ' := s14) (nj := 1) (j := 202) (c := 1) (t := []) (as := [(.inr (.inr (some 0)))]) 235 [(.inl v15)] (show zop 267 232 = some (.invokevirtual 214, 3) by decide +kernel) (by decide +kernel) rfl (by decide +kernel) rfl rfl rfl rfl rfl rfl (by decide +kernel) (by decide +kernel) (clS_0 rfl) hD16 rfl g17 ?_
      refine zq_iload 237 (show zop 267 235 = some (.iload 5, 2) by decide +kernel) rfl rfl ?_
      by_cases hc20 : v15 = x5
      · refine zq_icmpF 240 244 (show zop 267 237 = some (.if_icmp .ne 7, 3) by decide +kernel) rfl rfl (decide_eq_false (fun h9 => h9 hc20)) ?_
        refine zq_iconst 241 (show zop 267 240 = some (.iconst 1, 1) by decide +kernel) rfl rfl ?_
        refine zq_goto 245 (show zop 267 241 = some (.goto 4, 3) by decide +kernel) rfl ?_
        have h9 := h; simp only [if_pos hc20] at h9; exact h9
      · refine zq_icmpT 244 (show zop 267 237 = some (.if_icmp .ne 7, 3) by decide +kernel) rfl (decide_eq_true hc20) ?_
        refine zq_iconst 245 (show zop 267 244 = some (.iconst 0, 1) by decide +kernel) rfl rfl ?_
        have h9 := h; simp only [if_neg hc20] at h9; exact h9
theorem bK267_246 {x2 : Int} {d3 : Option AV} {d4 : Option AV} {d5 : Option AV} {d6 : Option AV} {d7 : Option AV} {w : WS} {r : Nat} {o : Ro} (h : (w.1[0]? = some (0, 12, [])) ∧ (0 ≤ (3 : Int) ∧ (3 : Int) < 12) ∧ (if 2 ≤ (w.2.1 682 ((3 : Int)).toNat) then (w.1[0]? = some (0, 12, [])) ∧ (0 ≤ (3 : Int) ∧ (3 : Int) < 12) ∧ (-2147483648 ≤ ((w.2.1 682 ((3 : Int)).toNat) - 1) ∧ ((w.2.1 682 ((3 : Int)).toNat) - 1) ≤ 2147483647) ∧ (0 < ((w.2.1 682 ((3 : Int)).toNat) - 1)) ∧ (100 ≤ r) ∧ (∃ (v10 : Int) (w9 : WS), Lx 270 [(.inr (.inr (some 0))), (.inr (.inr (some 682))), (.inl (Int.tmod (Int.tdiv x2 8) ((w.2.1 682 ((3 : Int)).toNat) - 1)))] w (.inl (some (.inl v10)), w9) ∧ (if v10 = 0 then K267_276 (some (.inr (.inr (some 0)))) (some (.inr (.inr (some 682)))) (some (.inl x2)) d3 d4 d5 d6 d7 0 w9 (r - 100) o else K267_271 (some (.inr (.inr (some 0)))) (some (.inr (.inr (some 682)))) (some (.inl x2)) d3 d4 d5 d6 d7 w9 (r - 100) o)) else K267_271 (some (.inr (.inr (some 0)))) (some (.inr (.inr (some 682)))) (some (.inl x2)) d3 d4 d5 d6 d7 w r o)) : K267_246 x2 d3 d4 d5 d6 d7 w r o := by
  show Lg 267 246 [(some (.inr (.inr (some 0)))), (some (.inr (.inr (some 682)))), (some (.inl x2)), d3, d4, d5, d6, d7] [] w r o
  refine zq_aload_n 247 (show zop 267 246 = some (.aload_n 1, 1) by decide +kernel) rfl rfl ?_
  refine zq_iconst 248 (show zop 267 247 = some (.iconst 3, 1) by decide +kernel) rfl rfl ?_
  obtain ⟨g3, h⟩ := h
  obtain ⟨g1, h⟩ := h
  refine zq_iaload 249 12 (show zop 267 248 = some (.iaload, 1) by decide +kernel) rfl (by decide) g3 g1 ?_
  refine zq_iconst 250 (show zop 267 249 = some (.iconst 2, 1) by decide +kernel) rfl rfl ?_
  by_cases hc13 : 2 ≤ (w.2.1 682 ((3 : Int)).toNat)
  · rw [if_pos hc13] at h
    refine zq_icmpF 253 271 (show zop 267 250 = some (.if_icmp .lt 21, 3) by decide +kernel) rfl rfl (decide_eq_false (Int.not_lt.mpr hc13)) ?_
    refine zq_aload_n 254 (show zop 267 253 = some (.aload_n 0, 1) by decide +kernel) rfl rfl ?_
    refine zq_aload_n 255 (show zop 267 254 = some (.aload_n 1, 1) by decide +kernel) rfl rfl ?_
    refine zq_iload_n 256 (show zop 267 255 = some (.iload_n 2, 1) by decide +kernel) rfl rfl ?_
    refine zq_bipush 258 (show zop 267 256 = some (.bipush 8, 2) by decide +kernel) rfl (by decide) ?_
    refine zq_idiv 259 (show zop 267 258 = some (.idiv, 1) by decide +kernel) rfl (by decide) ?_
    refine zq_aload_n 260 (show zop 267 259 = some (.aload_n 1, 1) by decide +kernel) rfl rfl ?_
    refine zq_iconst 261 (show zop 267 260 = some (.iconst 3, 1) by decide +kernel) rfl rfl ?_
    obtain ⟨g6, h⟩ := h
    obtain ⟨g4, h⟩ := h
    refine zq_iaload 262 12 (show zop 267 261 = some (.iaload, 1) by decide +kernel) rfl (by decide) g6 g4 ?_
    refine zq_iconst 263 (show zop 267 262 = some (.iconst 1, 1) by decide +kernel) rfl rfl ?_
    obtain ⟨g7, h⟩ := h
    refine zq_isub 264 (show zop 267 263 = some (.isub, 1) by decide +kernel) rfl g7 ?_
    obtain ⟨g8, h⟩ := h
    refine zq_irem 265 (show zop 267 264 = some (.irem, 1) by decide +kernel) rfl g8 ?_
    obtain ⟨g12, h⟩ := h
    obtain ⟨v10, w9, hD11, h⟩ := h
    refine zq_lx (v := some (.inl v10)) (w' := w9) (nj := 3) (j := 270) (c := 100) (t := []) (as := [(.inr (.inr (some 0))), (.inr (.inr (some 682))), (.inl (Int.tmod (Int.tdiv x2 8) ((w.2.1 682 ((3 : Int)).toNat) - 1)))]) 268 [(.inl v10)] (show zop 267 265 = some (.invokestatic 217, 3) by decide +kernel) (by decide +kernel) rfl (by decide +kernel) (by decide +kernel) rfl rfl rfl rfl rfl hD11 rfl g12 ?_
    by_cases hc14 : v10 = 0
    · rw [if_pos hc14] at h
      refine zq_ifT 275 (show zop 267 268 = some (.ifCond .eq 7, 3) by decide +kernel) rfl (decide_eq_true hc14) ?_
      refine zq_iconst 276 (show zop 267 275 = some (.iconst 0, 1) by decide +kernel) rfl rfl ?_
      exact h
    · rw [if_neg hc14] at h
      refine zq_ifF 271 275 (show zop 267 268 = some (.ifCond .eq 7, 3) by decide +kernel) rfl rfl (decide_eq_false hc14) ?_
      exact h
  · rw [if_neg hc13] at h
    refine zq_icmpT 271 (show zop 267 250 = some (.if_icmp .lt 21, 3) by decide +kernel) rfl (decide_eq_true (Int.not_le.mp hc13)) ?_
    exact h
theorem bK267_277 {x2 : Int} {x3 : Int} {d4 : Option AV} {d5 : Option AV} {d6 : Option AV} {d7 : Option AV} {w : WS} {r : Nat} {o : Ro} (h : (w.1[0]? = some (0, 12, [])) ∧ (0 ≤ (3 : Int) ∧ (3 : Int) < 12) ∧ (if 2 ≤ (w.2.1 682 ((3 : Int)).toNat) then (if 0 < (Int.tmod x3 4) then K267_290 (some (.inl x2)) (some (.inl x3)) d4 d5 d6 d7 w r o else (w.1[0]? = some (0, 12, [])) ∧ (0 ≤ (3 : Int) ∧ (3 : Int) < 12) ∧ (-2147483648 ≤ ((w.2.1 682 ((3 : Int)).toNat) - 1) ∧ ((w.2.1 682 ((3 : Int)).toNat) - 1) ≤ 2147483647) ∧ (0 < ((w.2.1 682 ((3 : Int)).toNat) - 1)) ∧ (-2147483648 ≤ ((Int.tmod (Int.tdiv x2 8) ((w.2.1 682 ((3 : Int)).toNat) - 1)) + 1) ∧ ((Int.tmod (Int.tdiv x2 8) ((w.2.1 682 ((3 : Int)).toNat) - 1)) + 1) ≤ 2147483647) ∧ K267_324 (some (.inl x2)) (some (.inl x3)) d4 d5 (Int.tmod (Int.tdiv x2 8) ((w.2.1 682 ((3 : Int)).toNat) - 1)) ((Int.tmod (Int.tdiv x2 8) ((w.2.1 682 ((3 : Int)).toNat) - 1)) + 1) w r o) else K267_290 (some (.inl x2)) (some (.inl x3)) d4 d5 d6 d7 w r o)) : K267_277 x2 x3 d4 d5 d6 d7 w r o := by
  show Lg 267 277 [(some (.inr (.inr (some 0)))), (some (.inr (.inr (some 682)))), (some (.inl x2)), (some (.inl x3)), d4, d5, d6, d7] [] w r o
  refine zq_aload_n 278 (show zop 267 277 = some (.aload_n 1, 1) by decide +kernel) rfl rfl ?_
  refine zq_iconst 279 (show zop 267 278 = some (.iconst 3, 1) by decide +kernel) rfl rfl ?_
  obtain ⟨g3, h⟩ := h
  obtain ⟨g1, h⟩ := h
  refine zq_iaload 280 12 (show zop 267 279 = some (.iaload, 1) by decide +kernel) rfl (by decide) g3 g1 ?_
  refine zq_iconst 281 (show zop 267 280 = some (.iconst 2, 1) by decide +kernel) rfl rfl ?_
  by_cases hc10 : 2 ≤ (w.2.1 682 ((3 : Int)).toNat)
  · rw [if_pos hc10] at h
    refine zq_icmpF 284 290 (show zop 267 281 = some (.if_icmp .lt 9, 3) by decide +kernel) rfl rfl (decide_eq_false (Int.not_lt.mpr hc10)) ?_
    refine zq_iload_n 285 (show zop 267 284 = some (.iload_n 3, 1) by decide +kernel) rfl rfl ?_
    refine zq_iconst 286 (show zop 267 285 = some (.iconst 4, 1) by decide +kernel) rfl rfl ?_
    refine zq_irem 287 (show zop 267 286 = some (.irem, 1) by decide +kernel) rfl (by decide) ?_
    by_cases hc11 : 0 < (Int.tmod x3 4)
    · rw [if_pos hc11] at h
      refine zq_ifF 290 306 (show zop 267 287 = some (.ifCond .le 19, 3) by decide +kernel) rfl rfl (decide_eq_false (Int.not_le.mpr hc11)) ?_
      exact h
    · rw [if_neg hc11] at h
      refine zq_ifT 306 (show zop 267 287 = some (.ifCond .le 19, 3) by decide +kernel) rfl (decide_eq_true (Int.not_lt.mp hc11)) ?_
      refine zq_iload_n 307 (show zop 267 306 = some (.iload_n 2, 1) by decide +kernel) rfl rfl ?_
      refine zq_bipush 309 (show zop 267 307 = some (.bipush 8, 2) by decide +kernel) rfl (by decide) ?_
      refine zq_idiv 310 (show zop 267 309 = some (.idiv, 1) by decide +kernel) rfl (by decide) ?_
      refine zq_aload_n 311 (show zop 267 310 = some (.aload_n 1, 1) by decide +kernel) rfl rfl ?_
      refine zq_iconst 312 (show zop 267 311 = some (.iconst 3, 1) by decide +kernel) rfl rfl ?_
      obtain ⟨g6, h⟩ := h
      obtain ⟨g4, h⟩ := h
      refine zq_iaload 313 12 (show zop 267 312 = some (.iaload, 1) by decide +kernel) rfl (by decide) g6 g4 ?_
      refine zq_iconst 314 (show zop 267 313 = some (.iconst 1, 1) by decide +kernel) rfl rfl ?_
      obtain ⟨g7, h⟩ := h
      refine zq_isub 315 (show zop 267 314 = some (.isub, 1) by decide +kernel) rfl g7 ?_
      obtain ⟨g8, h⟩ := h
      refine zq_irem 316 (show zop 267 315 = some (.irem, 1) by decide +kernel) rfl g8 ?_
      refine zq_istore 318 [(some (.inr (.inr (some 0)))), (some (.inr (.inr (some 682)))), (some (.inl x2)), (some (.inl x3)), d4, d5, (some (.inl (Int.tmod (Int.tdiv x2 8) ((w.2.1 682 ((3 : Int)).toNat) - 1)))), d7] (show zop 267 316 = some (.istore 6, 2) by decide +kernel) rfl rfl rfl ?_
      refine zq_iload 320 (show zop 267 318 = some (.iload 6, 2) by decide +kernel) rfl rfl ?_
      refine zq_iconst 321 (show zop 267 320 = some (.iconst 1, 1) by decide +kernel) rfl rfl ?_
      obtain ⟨g9, h⟩ := h
      refine zq_iadd 322 (show zop 267 321 = some (.iadd, 1) by decide +kernel) rfl g9 ?_
      refine zq_istore 324 [(some (.inr (.inr (some 0)))), (some (.inr (.inr (some 682)))), (some (.inl x2)), (some (.inl x3)), d4, d5, (some (.inl (Int.tmod (Int.tdiv x2 8) ((w.2.1 682 ((3 : Int)).toNat) - 1)))), (some (.inl ((Int.tmod (Int.tdiv x2 8) ((w.2.1 682 ((3 : Int)).toNat) - 1)) + 1)))] (show zop 267 322 = some (.istore 7, 2) by decide +kernel) rfl rfl rfl ?_
      exact h
  · rw [if_neg hc10] at h
    refine zq_icmpT 290 (show zop 267 281 = some (.if_icmp .lt 9, 3) by decide +kernel) rfl (decide_eq_true (Int.not_le.mp hc10)) ?_
    exact h
theorem bK267_379 {d2 : Option AV} {x3 : Int} {d4 : Option AV} {d5 : Option AV} {d6 : Option AV} {d7 : Option AV} {w : WS} {r : Nat} {o : Ro} (h : (w.1[0]? = some (0, 12, [])) ∧ (0 ≤ (3 : Int) ∧ (3 : Int) < 12) ∧ (if (w.2.1 682 ((3 : Int)).toNat) = 0 then (0 ≤ r) ∧ (∃ (v5 : Int) (s4 : Sg), Dc 208 [(.inr (.inr (some 0)))] w.2.2 (.inl (some (.inl v5))) s4 ∧ K267_397 (some (.inr (.inr (some 0)))) (some (.inr (.inr (some 682)))) d2 (some (.inl x3)) d4 d5 d6 d7 (if v5 = 0 then 1 else 0) (wS w s4) r o) else (-2147483648 ≤ ((Int.tmod x3 4) + 1) ∧ ((Int.tmod x3 4) + 1) ≤ 2147483647) ∧ (w.1[0]? = some (0, 12, [])) ∧ (0 ≤ (5 : Int) ∧ (5 : Int) < 12) ∧ (4 ≤ r) ∧ (∃ (v13 : Int) (s12 : Sg), Dc 207 [(.inr (.inr (some 0))), (.inl (Int.tmod x3 4)), (.inl (Int.tmod (Int.tdiv x3 4) 3))] (wU w 682 ((5 : Int)).toNat ((Int.tmod x3 4) + 1)).2.2 (.inl (some (.inl v13))) s12 ∧ (if 0 ≤ v13 then (if v13 ≤ 17 then (100 ≤ (r - 4)) ∧ (∃ (v17 : Int) (w16 : WS), Lx 268 [(.inr (.inr (some 0))), (.inl (Int.tmod x3 4))] (wS (wU w 682 ((5 : Int)).toNat ((Int.tmod x3 4) + 1)) s12) (.inl (some (.inl v17)), w16) ∧ (if v17 = 0 then K267_446 (some (.inr (.inr (some 0)))) (some (.inr (.inr (some 682)))) d2 (some (.inl x3)) d4 d5 d6 (some (.inl v13)) w16 ((r - 4) - 100) o else K267_447 (some (.inr (.inr (some 0)))) (some (.inr (.inr (some 682)))) d2 (some (.inl x3)) d4 d5 d6 (some (.inl v13)) 1 w16 ((r - 4) - 100) o)) else K267_446 (some (.inr (.inr (some 0)))) (some (.inr (.inr (some 682)))) d2 (some (.inl x3)) d4 d5 d6 (some (.inl v13)) (wS (wU w 682 ((5 : Int)).toNat ((Int.tmod x3 4) + 1)) s12) (r - 4) o) else K267_446 (some (.inr (.inr (some 0)))) (some (.inr (.inr (some 682)))) d2 (some (.inl x3)) d4 d5 d6 (some (.inl v13)) (wS (wU w 682 ((5 : Int)).toNat ((Int.tmod x3 4) + 1)) s12) (r - 4) o)))) : K267_379 d2 x3 d4 d5 d6 d7 w r o := by
  show Lg 267 379 [(some (.inr (.inr (some 0)))), (some (.inr (.inr (some 682)))), d2, (some (.inl x3)), d4, d5, d6, d7] [] w r o
  refine zq_aload_n 380 (show zop 267 379 = some (.aload_n 1, 1) by decide +kernel) rfl rfl ?_
  refine zq_iconst 381 (show zop 267 380 = some (.iconst 3, 1) by decide +kernel) rfl rfl ?_
  obtain ⟨g3, h⟩ := h
  obtain ⟨g1, h⟩ := h
  refine zq_iaload 382 12 (show zop 267 381 = some (.iaload, 1) by decide +kernel) rfl (by decide) g3 g1 ?_
  by_cases hc20 : (w.2.1 682 ((3 : Int)).toNat) = 0
  · rw [if_pos hc20] at h
    refine zq_ifF 385 398 (show zop 267 382 = some (.ifCond .ne 16, 3) by decide +kernel) rfl rfl (decide_eq_false (fun h9 => h9 hc20)) ?_
    refine zq_aload_n 386 (show zop 267 385 = some (.aload_n 0, 1) by decide +kernel) rfl rfl ?_
    obtain ⟨g7, h⟩ := h
    obtain ⟨v5, s4, hD6, h⟩ := h
    refine zq_vi (v := some (.inl v5)) (σ' := s4) (nj := 1) (j := 208) (c := 0) (t := []) (as := [(.inr (.inr (some 0)))]) 389 [(.inl v5)] (show zop 267 386 = some (.invokevirtual 211, 3) by decide +kernel) (by decide +kernel) rfl (by decide +kernel) rfl rfl rfl rfl rfl rfl (by decide +kernel) (by decide +kernel) (clS_0 rfl) hD6 rfl g7 ?_
    by_cases hc21 : v5 = 0
    · refine zq_ifF 392 396 (show zop 267 389 = some (.ifCond .ne 7, 3) by decide +kernel) rfl rfl (decide_eq_false (fun h9 => h9 hc21)) ?_
      refine zq_iconst 393 (show zop 267 392 = some (.iconst 1, 1) by decide +kernel) rfl rfl ?_
      refine zq_goto 397 (show zop 267 393 = some (.goto 4, 3) by decide +kernel) rfl ?_
      have h9 := h; simp only [if_pos hc21] at h9; exact h9
    · refine zq_ifT 396 (show zop 267 389 = some (.ifCond .ne 7, 3) by decide +kernel) rfl (decide_eq_true hc21) ?_
      refine zq_iconst 397 (show zop 267 396 = some (.iconst 0, 1) by decide +kernel) rfl rfl ?_
      have h9 := h; simp only [if_neg hc21] at h9; exact h9
  · rw [if_neg hc20] at h
    refine zq_ifT 398 (show zop 267 382 = some (.ifCond .ne 16, 3) by decide +kernel) rfl (decide_eq_true hc20) ?_
    refine zq_aload_n 399 (show zop 267 398 = some (.aload_n 1, 1) by decide +kernel) rfl rfl ?_
    refine zq_iconst 400 (show zop 267 399 = some (.iconst 5, 1) by decide +kernel) rfl rfl ?_
    refine zq_iload_n 401 (show zop 267 400 = some (.iload_n 3, 1) by decide +kernel) rfl rfl ?_
    refine zq_iconst 402 (show zop 267 401 = some (.iconst 4, 1) by decide +kernel) rfl rfl ?_
    refine zq_irem 403 (show zop 267 402 = some (.irem, 1) by decide +kernel) rfl (by decide) ?_
    refine zq_iconst 404 (show zop 267 403 = some (.iconst 1, 1) by decide +kernel) rfl rfl ?_
    obtain ⟨g8, h⟩ := h
    refine zq_iadd 405 (show zop 267 404 = some (.iadd, 1) by decide +kernel) rfl g8 ?_
    obtain ⟨g11, h⟩ := h
    obtain ⟨g9, h⟩ := h
    refine zq_iastore 406 12 (show zop 267 405 = some (.iastore, 1) by decide +kernel) rfl (by decide) g11 g9 ?_
    refine zq_aload_n 407 (show zop 267 406 = some (.aload_n 0, 1) by decide +kernel) rfl rfl ?_
    refine zq_iload_n 408 (show zop 267 407 = some (.iload_n 3, 1) by decide +kernel) rfl rfl ?_
    refine zq_iconst 409 (show zop 267 408 = some (.iconst 4, 1) by decide +kernel) rfl rfl ?_
    refine zq_irem 410 (show zop 267 409 = some (.irem, 1) by decide +kernel) rfl (by decide) ?_
    refine zq_iload_n 411 (show zop 267 410 = some (.iload_n 3, 1) by decide +kernel) rfl rfl ?_
    refine zq_iconst 412 (show zop 267 411 = some (.iconst 4, 1) by decide +kernel) rfl rfl ?_
    refine zq_idiv 413 (show zop 267 412 = some (.idiv, 1) by decide +kernel) rfl (by decide) ?_
    refine zq_iconst 414 (show zop 267 413 = some (.iconst 3, 1) by decide +kernel) rfl rfl ?_
    refine zq_irem 415 (show zop 267 414 = some (.irem, 1) by decide +kernel) rfl (by decide) ?_
    obtain ⟨g15, h⟩ := h
    obtain ⟨v13, s12, hD14, h⟩ := h
    refine zq_vi (v := some (.inl v13)) (σ' := s12) (nj := 3) (j := 207) (c := 4) (t := []) (as := [(.inr (.inr (some 0))), (.inl (Int.tmod x3 4)), (.inl (Int.tmod (Int.tdiv x3 4) 3))]) 418 [(.inl v13)] (show zop 267 415 = some (.invokevirtual 223, 3) by decide +kernel) (by decide +kernel) rfl (by decide +kernel) rfl rfl rfl rfl rfl rfl (by decide +kernel) (by decide +kernel) (clS_0 rfl) hD14 rfl g15 ?_
    refine zq_istore 420 [(some (.inr (.inr (some 0)))), (some (.inr (.inr (some 682)))), d2, (some (.inl x3)), d4, d5, d6, (some (.inl v13))] (show zop 267 418 = some (.istore 7, 2) by decide +kernel) rfl rfl rfl ?_
    refine zq_iload 422 (show zop 267 420 = some (.iload 7, 2) by decide +kernel) rfl rfl ?_
    by_cases hc22 : 0 ≤ v13
    · rw [if_pos hc22] at h
      refine zq_ifF 425 446 (show zop 267 422 = some (.ifCond .lt 24, 3) by decide +kernel) rfl rfl (decide_eq_false (Int.not_lt.mpr hc22)) ?_
      refine zq_iload 427 (show zop 267 425 = some (.iload 7, 2) by decide +kernel) rfl rfl ?_
      refine zq_bipush 429 (show zop 267 427 = some (.bipush 17, 2) by decide +kernel) rfl (by decide) ?_
      by_cases hc23 : v13 ≤ 17
      · rw [if_pos hc23] at h
        refine zq_icmpF 432 446 (show zop 267 429 = some (.if_icmp .gt 17, 3) by decide +kernel) rfl rfl (decide_eq_false (Int.not_lt.mpr hc23)) ?_
        refine zq_aload_n 433 (show zop 267 432 = some (.aload_n 0, 1) by decide +kernel) rfl rfl ?_
        refine zq_iload_n 434 (show zop 267 433 = some (.iload_n 3, 1) by decide +kernel) rfl rfl ?_
        refine zq_iconst 435 (show zop 267 434 = some (.iconst 4, 1) by decide +kernel) rfl rfl ?_
        refine zq_irem 436 (show zop 267 435 = some (.irem, 1) by decide +kernel) rfl (by decide) ?_
        obtain ⟨g19, h⟩ := h
        obtain ⟨v17, w16, hD18, h⟩ := h
        refine zq_lx (v := some (.inl v17)) (w' := w16) (nj := 2) (j := 268) (c := 100) (t := []) (as := [(.inr (.inr (some 0))), (.inl (Int.tmod x3 4))]) 439 [(.inl v17)] (show zop 267 436 = some (.invokestatic 226, 3) by decide +kernel) (by decide +kernel) rfl (by decide +kernel) (by decide +kernel) rfl rfl rfl rfl rfl hD18 rfl g19 ?_
        by_cases hc24 : v17 = 0
        · rw [if_pos hc24] at h
          refine zq_ifT 446 (show zop 267 439 = some (.ifCond .eq 7, 3) by decide +kernel) rfl (decide_eq_true hc24) ?_
          exact h
        · rw [if_neg hc24] at h
          refine zq_ifF 442 446 (show zop 267 439 = some (.ifCond .eq 7, 3) by decide +kernel) rfl rfl (decide_eq_false hc24) ?_
          refine zq_iconst 443 (show zop 267 442 = some (.iconst 1, 1) by decide +kernel) rfl rfl ?_
          refine zq_goto 447 (show zop 267 443 = some (.goto 4, 3) by decide +kernel) rfl ?_
          exact h
      · rw [if_neg hc23] at h
        refine zq_icmpT 446 (show zop 267 429 = some (.if_icmp .gt 17, 3) by decide +kernel) rfl (decide_eq_true (Int.not_le.mp hc23)) ?_
        exact h
    · rw [if_neg hc22] at h
      refine zq_ifT 446 (show zop 267 422 = some (.ifCond .lt 24, 3) by decide +kernel) rfl (decide_eq_true (Int.not_le.mp hc22)) ?_
      exact h
theorem bK267_448 {d2 : Option AV} {x3 : Int} {x4 : Int} {d5 : Option AV} {d6 : Option AV} {d7 : Option AV} {w : WS} {r : Nat} {o : Ro} (h : (w.1[0]? = some (0, 12, [])) ∧ (0 ≤ (3 : Int) ∧ (3 : Int) < 12) ∧ (if (w.2.1 682 ((3 : Int)).toNat) = 0 then K267_473 (some (.inr (.inr (some 0)))) (some (.inr (.inr (some 682)))) d2 (some (.inl x3)) (some (.inl x4)) d5 d6 d7 w r o else (w.1[0]? = some (0, 12, [])) ∧ (0 ≤ (0 : Int) ∧ (0 : Int) < 12) ∧ (if (w.2.1 682 ((0 : Int)).toNat) ≤ 20 then (1000 ≤ r) ∧ (∃ (v8 : Int) (w7 : WS), Lx 271 [(.inr (.inr (some 0))), (.inr (.inr (some 682))), (.inl x4), (.inl x3)] w (.inl (some (.inl v8)), w7) ∧ (if v8 = 0 then K267_478 (some (.inr (.inr (some 0)))) (some (.inr (.inr (some 682)))) d2 (some (.inl x3)) (some (.inl x4)) d5 d6 d7 0 w7 (r - 1000) o else K267_473 (some (.inr (.inr (some 0)))) (some (.inr (.inr (some 682)))) d2 (some (.inl x3)) (some (.inl x4)) d5 d6 d7 w7 (r - 1000) o)) else K267_473 (some (.inr (.inr (some 0)))) (some (.inr (.inr (some 682)))) d2 (some (.inl x3)) (some (.inl x4)) d5 d6 d7 w r o))) : K267_448 d2 x3 x4 d5 d6 d7 w r o := by
  show Lg 267 448 [(some (.inr (.inr (some 0)))), (some (.inr (.inr (some 682)))), d2, (some (.inl x3)), (some (.inl x4)), d5, d6, d7] [] w r o
  refine zq_aload_n 449 (show zop 267 448 = some (.aload_n 1, 1) by decide +kernel) rfl rfl ?_
  refine zq_iconst 450 (show zop 267 449 = some (.iconst 3, 1) by decide +kernel) rfl rfl ?_
  obtain ⟨g3, h⟩ := h
  obtain ⟨g1, h⟩ := h
  refine zq_iaload 451 12 (show zop 267 450 = some (.iaload, 1) by decide +kernel) rfl (by decide) g3 g1 ?_
  by_cases hc11 : (w.2.1 682 ((3 : Int)).toNat) = 0
  · rw [if_pos hc11] at h
    refine zq_ifT 473 (show zop 267 451 = some (.ifCond .eq 22, 3) by decide +kernel) rfl (decide_eq_true hc11) ?_
    exact h
  · rw [if_neg hc11] at h
    refine zq_ifF 454 473 (show zop 267 451 = some (.ifCond .eq 22, 3) by decide +kernel) rfl rfl (decide_eq_false hc11) ?_
    refine zq_aload_n 455 (show zop 267 454 = some (.aload_n 1, 1) by decide +kernel) rfl rfl ?_
    refine zq_iconst 456 (show zop 267 455 = some (.iconst 0, 1) by decide +kernel) rfl rfl ?_
    obtain ⟨g6, h⟩ := h
    obtain ⟨g4, h⟩ := h
    refine zq_iaload 457 12 (show zop 267 456 = some (.iaload, 1) by decide +kernel) rfl (by decide) g6 g4 ?_
    refine zq_bipush 459 (show zop 267 457 = some (.bipush 20, 2) by decide +kernel) rfl (by decide) ?_
    by_cases hc12 : (w.2.1 682 ((0 : Int)).toNat) ≤ 20
    · rw [if_pos hc12] at h
      refine zq_icmpF 462 473 (show zop 267 459 = some (.if_icmp .gt 14, 3) by decide +kernel) rfl rfl (decide_eq_false (Int.not_lt.mpr hc12)) ?_
      refine zq_aload_n 463 (show zop 267 462 = some (.aload_n 0, 1) by decide +kernel) rfl rfl ?_
      refine zq_aload_n 464 (show zop 267 463 = some (.aload_n 1, 1) by decide +kernel) rfl rfl ?_
      refine zq_iload 466 (show zop 267 464 = some (.iload 4, 2) by decide +kernel) rfl rfl ?_
      refine zq_iload_n 467 (show zop 267 466 = some (.iload_n 3, 1) by decide +kernel) rfl rfl ?_
      obtain ⟨g10, h⟩ := h
      obtain ⟨v8, w7, hD9, h⟩ := h
      refine zq_lx (v := some (.inl v8)) (w' := w7) (nj := 4) (j := 271) (c := 1000) (t := []) (as := [(.inr (.inr (some 0))), (.inr (.inr (some 682))), (.inl x4), (.inl x3)]) 470 [(.inl v8)] (show zop 267 467 = some (.invokestatic 229, 3) by decide +kernel) (by decide +kernel) rfl (by decide +kernel) (by decide +kernel) rfl rfl rfl rfl rfl hD9 rfl g10 ?_
      by_cases hc13 : v8 = 0
      · rw [if_pos hc13] at h
        refine zq_ifT 477 (show zop 267 470 = some (.ifCond .eq 7, 3) by decide +kernel) rfl (decide_eq_true hc13) ?_
        refine zq_iconst 478 (show zop 267 477 = some (.iconst 0, 1) by decide +kernel) rfl rfl ?_
        exact h
      · rw [if_neg hc13] at h
        refine zq_ifF 473 477 (show zop 267 470 = some (.ifCond .eq 7, 3) by decide +kernel) rfl rfl (decide_eq_false hc13) ?_
        exact h
    · rw [if_neg hc12] at h
      refine zq_icmpT 473 (show zop 267 459 = some (.if_icmp .gt 14, 3) by decide +kernel) rfl (decide_eq_true (Int.not_le.mp hc12)) ?_
      exact h
theorem bK267_112 {d2 : Option AV} {x3 : Int} {d4 : Option AV} {d5 : Option AV} {d6 : Option AV} {d7 : Option AV} {w : WS} {r : Nat} {o : Ro} (h : (-2147483648 ≤ ((Int.tmod (Int.tdiv x3 3) 4) + 1) ∧ ((Int.tmod (Int.tdiv x3 3) 4) + 1) ≤ 2147483647) ∧ (w.1[0]? = some (0, 12, [])) ∧ (0 ≤ (5 : Int) ∧ (5 : Int) < 12) ∧ ((wU w 682 ((5 : Int)).toNat ((Int.tmod (Int.tdiv x3 3) 4) + 1)).1[0]? = some (0, 12, [])) ∧ (0 ≤ (5 : Int) ∧ (5 : Int) < 12) ∧ (-2147483648 ≤ (((wU w 682 ((5 : Int)).toNat ((Int.tmod (Int.tdiv x3 3) 4) + 1)).2.1 682 ((5 : Int)).toNat) - 1) ∧ (((wU w 682 ((5 : Int)).toNat ((Int.tmod (Int.tdiv x3 3) 4) + 1)).2.1 682 ((5 : Int)).toNat) - 1) ≤ 2147483647) ∧ (2 ≤ r) ∧ (∃ (v10 : Int) (s9 : Sg), Dc 200 [(.inr (.inr (some 0))), (.inl (((wU w 682 ((5 : Int)).toNat ((Int.tmod (Int.tdiv x3 3) 4) + 1)).2.1 682 ((5 : Int)).toNat) - 1))] (wU w 682 ((5 : Int)).toNat ((Int.tmod (Int.tdiv x3 3) 4) + 1)).2.2 (.inl (some (.inl v10))) s9 ∧ ((wS (wU w 682 ((5 : Int)).toNat ((Int.tmod (Int.tdiv x3 3) 4) + 1)) s9).1[0]? = some (0, 12, [])) ∧ (0 ≤ (5 : Int) ∧ (5 : Int) < 12) ∧ (-2147483648 ≤ (((wS (wU w 682 ((5 : Int)).toNat ((Int.tmod (Int.tdiv x3 3) 4) + 1)) s9).2.1 682 ((5 : Int)).toNat) - 1) ∧ (((wS (wU w 682 ((5 : Int)).toNat ((Int.tmod (Int.tdiv x3 3) 4) + 1)) s9).2.1 682 ((5 : Int)).toNat) - 1) ≤ 2147483647) ∧ (1 ≤ (r - 2)) ∧ (∃ (v18 : Int) (s17 : Sg), Dc 175 [(.inr (.inr (some 0))), (.inl (((wS (wU w 682 ((5 : Int)).toNat ((Int.tmod (Int.tdiv x3 3) 4) + 1)) s9).2.1 682 ((5 : Int)).toNat) - 1))] (wS (wU w 682 ((5 : Int)).toNat ((Int.tmod (Int.tdiv x3 3) 4) + 1)) s9).2.2 (.inl (some (.inl v18))) s17 ∧ K267_148 (some (.inr (.inr (some 0)))) (some (.inr (.inr (some 682)))) d2 (some (.inl x3)) d4 d5 d6 d7 (if v10 = v18 then 1 else 0) (wS (wS (wU w 682 ((5 : Int)).toNat ((Int.tmod (Int.tdiv x3 3) 4) + 1)) s9) s17) ((r - 2) - 1) o))) : K267_112 d2 x3 d4 d5 d6 d7 w r o := by
  show Lg 267 112 [(some (.inr (.inr (some 0)))), (some (.inr (.inr (some 682)))), d2, (some (.inl x3)), d4, d5, d6, d7] [] w r o
  refine zq_aload_n 113 (show zop 267 112 = some (.aload_n 1, 1) by decide +kernel) rfl rfl ?_
  refine zq_iconst 114 (show zop 267 113 = some (.iconst 5, 1) by decide +kernel) rfl rfl ?_
  refine zq_iload_n 115 (show zop 267 114 = some (.iload_n 3, 1) by decide +kernel) rfl rfl ?_
  refine zq_iconst 116 (show zop 267 115 = some (.iconst 3, 1) by decide +kernel) rfl rfl ?_
  refine zq_idiv 117 (show zop 267 116 = some (.idiv, 1) by decide +kernel) rfl (by decide) ?_
  refine zq_iconst 118 (show zop 267 117 = some (.iconst 4, 1) by decide +kernel) rfl rfl ?_
  refine zq_irem 119 (show zop 267 118 = some (.irem, 1) by decide +kernel) rfl (by decide) ?_
  refine zq_iconst 120 (show zop 267 119 = some (.iconst 1, 1) by decide +kernel) rfl rfl ?_
  obtain ⟨g1, h⟩ := h
  refine zq_iadd 121 (show zop 267 120 = some (.iadd, 1) by decide +kernel) rfl g1 ?_
  obtain ⟨g4, h⟩ := h
  obtain ⟨g2, h⟩ := h
  refine zq_iastore 122 12 (show zop 267 121 = some (.iastore, 1) by decide +kernel) rfl (by decide) g4 g2 ?_
  refine zq_aload_n 123 (show zop 267 122 = some (.aload_n 0, 1) by decide +kernel) rfl rfl ?_
  refine zq_aload_n 124 (show zop 267 123 = some (.aload_n 1, 1) by decide +kernel) rfl rfl ?_
  refine zq_iconst 125 (show zop 267 124 = some (.iconst 5, 1) by decide +kernel) rfl rfl ?_
  obtain ⟨g7, h⟩ := h
  obtain ⟨g5, h⟩ := h
  refine zq_iaload 126 12 (show zop 267 125 = some (.iaload, 1) by decide +kernel) rfl (by decide) g7 g5 ?_
  refine zq_iconst 127 (show zop 267 126 = some (.iconst 1, 1) by decide +kernel) rfl rfl ?_
  obtain ⟨g8, h⟩ := h
  refine zq_isub 128 (show zop 267 127 = some (.isub, 1) by decide +kernel) rfl g8 ?_
  obtain ⟨g12, h⟩ := h
  obtain ⟨v10, s9, hD11, h⟩ := h
  refine zq_vi (v := some (.inl v10)) (σ' := s9) (nj := 2) (j := 200) (c := 2) (t := []) (as := [(.inr (.inr (some 0))), (.inl (((wU w 682 ((5 : Int)).toNat ((Int.tmod (Int.tdiv x3 3) 4) + 1)).2.1 682 ((5 : Int)).toNat) - 1))]) 131 [(.inl v10)] (show zop 267 128 = some (.invokevirtual 205, 3) by decide +kernel) (by decide +kernel) rfl (by decide +kernel) rfl rfl rfl rfl rfl rfl (by decide +kernel) (by decide +kernel) (clS_0 rfl) hD11 rfl g12 ?_
  refine zq_aload_n 132 (show zop 267 131 = some (.aload_n 0, 1) by decide +kernel) rfl rfl ?_
  refine zq_aload_n 133 (show zop 267 132 = some (.aload_n 1, 1) by decide +kernel) rfl rfl ?_
  refine zq_iconst 134 (show zop 267 133 = some (.iconst 5, 1) by decide +kernel) rfl rfl ?_
  obtain ⟨g15, h⟩ := h
  obtain ⟨g13, h⟩ := h
  refine zq_iaload 135 12 (show zop 267 134 = some (.iaload, 1) by decide +kernel) rfl (by decide) g15 g13 ?_
  refine zq_iconst 136 (show zop 267 135 = some (.iconst 1, 1) by decide +kernel) rfl rfl ?_
  obtain ⟨g16, h⟩ := h
  refine zq_isub 137 (show zop 267 136 = some (.isub, 1) by decide +kernel) rfl g16 ?_
  obtain ⟨g20, h⟩ := h
  obtain ⟨v18, s17, hD19, h⟩ := h
  refine zq_vi (v := some (.inl v18)) (σ' := s17) (nj := 2) (j := 175) (c := 1) (t := [(.inl v10)]) (as := [(.inr (.inr (some 0))), (.inl (((wS (wU w 682 ((5 : Int)).toNat ((Int.tmod (Int.tdiv x3 3) 4) + 1)) s9).2.1 682 ((5 : Int)).toNat) - 1))]) 140 [(.inl v18), (.inl v10)] (show zop 267 137 = some (.invokevirtual 10, 3) by decide +kernel) (by decide +kernel) rfl (by decide +kernel) rfl rfl rfl rfl rfl rfl (by decide +kernel) (by decide +kernel) (clS_0 rfl) hD19 rfl g20 ?_
  by_cases hc21 : v10 = v18
  · refine zq_icmpF 143 147 (show zop 267 140 = some (.if_icmp .ne 7, 3) by decide +kernel) rfl rfl (decide_eq_false (fun h9 => h9 hc21)) ?_
    refine zq_iconst 144 (show zop 267 143 = some (.iconst 1, 1) by decide +kernel) rfl rfl ?_
    refine zq_goto 148 (show zop 267 144 = some (.goto 4, 3) by decide +kernel) rfl ?_
    have h9 := h; simp only [if_pos hc21] at h9; exact h9
  · refine zq_icmpT 147 (show zop 267 140 = some (.if_icmp .ne 7, 3) by decide +kernel) rfl (decide_eq_true hc21) ?_
    refine zq_iconst 148 (show zop 267 147 = some (.iconst 0, 1) by decide +kernel) rfl rfl ?_
    have h9 := h; simp only [if_neg hc21] at h9; exact h9
theorem bK267_100 {d2 : Option AV} {x3 : Int} {d4 : Option AV} {d5 : Option AV} {d6 : Option AV} {d7 : Option AV} {w : WS} {r : Nat} {o : Ro} (h : (w.1[0]? = some (0, 12, [])) ∧ (0 ≤ (3 : Int) ∧ (3 : Int) < 12) ∧ (if (w.2.1 682 ((3 : Int)).toNat) = 0 then (w.1[0]? = some (0, 12, [])) ∧ (0 ≤ (5 : Int) ∧ (5 : Int) < 12) ∧ (if (w.2.1 682 ((5 : Int)).toNat) = 0 then K267_112 d2 x3 d4 d5 d6 d7 w r o else K267_149 d2 x3 d4 d5 d6 d7 w r o) else K267_149 d2 x3 d4 d5 d6 d7 w r o)) : K267_100 d2 x3 d4 d5 d6 d7 w r o := by
  show Lg 267 100 [(some (.inr (.inr (some 0)))), (some (.inr (.inr (some 682)))), d2, (some (.inl x3)), d4, d5, d6, d7] [] w r o
  refine zq_aload_n 101 (show zop 267 100 = some (.aload_n 1, 1) by decide +kernel) rfl rfl ?_
  refine zq_iconst 102 (show zop 267 101 = some (.iconst 3, 1) by decide +kernel) rfl rfl ?_
  obtain ⟨g3, h⟩ := h
  obtain ⟨g1, h⟩ := h
  refine zq_iaload 103 12 (show zop 267 102 = some (.iaload, 1) by decide +kernel) rfl (by decide) g3 g1 ?_
  by_cases hc7 : (w.2.1 682 ((3 : Int)).toNat) = 0
  · rw [if_pos hc7] at h
    refine zq_ifF 106 149 (show zop 267 103 = some (.ifCond .ne 46, 3) by decide +kernel) rfl rfl (decide_eq_false (fun h9 => h9 hc7)) ?_
    refine zq_aload_n 107 (show zop 267 106 = some (.aload_n 1, 1) by decide +kernel) rfl rfl ?_
    refine zq_iconst 108 (show zop 267 107 = some (.iconst 5, 1) by decide +kernel) rfl rfl ?_
    obtain ⟨g6, h⟩ := h
    obtain ⟨g4, h⟩ := h
    refine zq_iaload 109 12 (show zop 267 108 = some (.iaload, 1) by decide +kernel) rfl (by decide) g6 g4 ?_
    by_cases hc8 : (w.2.1 682 ((5 : Int)).toNat) = 0
    · rw [if_pos hc8] at h
      refine zq_ifF 112 149 (show zop 267 109 = some (.ifCond .ne 40, 3) by decide +kernel) rfl rfl (decide_eq_false (fun h9 => h9 hc8)) ?_
      exact h
    · rw [if_neg hc8] at h
      refine zq_ifT 149 (show zop 267 109 = some (.ifCond .ne 40, 3) by decide +kernel) rfl (decide_eq_true hc8) ?_
      exact h
  · rw [if_neg hc7] at h
    refine zq_ifT 149 (show zop 267 103 = some (.ifCond .ne 46, 3) by decide +kernel) rfl (decide_eq_true hc7) ?_
    exact h
theorem bK267_204 {d2 : Option AV} {d3 : Option AV} {d4 : Option AV} {d5 : Option AV} {d6 : Option AV} {d7 : Option AV} {w : WS} {r : Nat} {o : Ro} (h : (0 ≤ r) ∧ (∃ (v2 : Int) (s1 : Sg), Dc 208 [(.inr (.inr (some 0)))] w.2.2 (.inl (some (.inl v2))) s1 ∧ ((wS w s1).1[0]? = some (0, 12, [])) ∧ (0 ≤ (3 : Int) ∧ (3 : Int) < 12) ∧ K267_219 (some (.inr (.inr (some 0)))) (some (.inr (.inr (some 682)))) d2 d3 d4 d5 d6 d7 (if v2 = ((wS w s1).2.1 682 ((3 : Int)).toNat) then 1 else 0) (wS w s1) r o)) : K267_204 d2 d3 d4 d5 d6 d7 w r o := by
  show Lg 267 204 [(some (.inr (.inr (some 0)))), (some (.inr (.inr (some 682)))), d2, d3, d4, d5, d6, d7] [] w r o
  refine zq_aload_n 205 (show zop 267 204 = some (.aload_n 0, 1) by decide +kernel) rfl rfl ?_
  obtain ⟨g4, h⟩ := h
  obtain ⟨v2, s1, hD3, h⟩ := h
  refine zq_vi (v := some (.inl v2)) (σ' := s1) (nj := 1) (j := 208) (c := 0) (t := []) (as := [(.inr (.inr (some 0)))]) 208 [(.inl v2)] (show zop 267 205 = some (.invokevirtual 211, 3) by decide +kernel) (by decide +kernel) rfl (by decide +kernel) rfl rfl rfl rfl rfl rfl (by decide +kernel) (by decide +kernel) (clS_0 rfl) hD3 rfl g4 ?_
  refine zq_aload_n 209 (show zop 267 208 = some (.aload_n 1, 1) by decide +kernel) rfl rfl ?_
  refine zq_iconst 210 (show zop 267 209 = some (.iconst 3, 1) by decide +kernel) rfl rfl ?_
  obtain ⟨g7, h⟩ := h
  obtain ⟨g5, h⟩ := h
  refine zq_iaload 211 12 (show zop 267 210 = some (.iaload, 1) by decide +kernel) rfl (by decide) g7 g5 ?_
  by_cases hc8 : v2 = ((wS w s1).2.1 682 ((3 : Int)).toNat)
  · refine zq_icmpF 214 218 (show zop 267 211 = some (.if_icmp .ne 7, 3) by decide +kernel) rfl rfl (decide_eq_false (fun h9 => h9 hc8)) ?_
    refine zq_iconst 215 (show zop 267 214 = some (.iconst 1, 1) by decide +kernel) rfl rfl ?_
    refine zq_goto 219 (show zop 267 215 = some (.goto 4, 3) by decide +kernel) rfl ?_
    have h9 := h; simp only [if_pos hc8] at h9; exact h9
  · refine zq_icmpT 218 (show zop 267 211 = some (.if_icmp .ne 7, 3) by decide +kernel) rfl (decide_eq_true hc8) ?_
    refine zq_iconst 219 (show zop 267 218 = some (.iconst 0, 1) by decide +kernel) rfl rfl ?_
    have h9 := h; simp only [if_neg hc8] at h9; exact h9
theorem bK267_245 {d0 : Option AV} {d1 : Option AV} {d2 : Option AV} {d3 : Option AV} {d4 : Option AV} {d5 : Option AV} {d6 : Option AV} {d7 : Option AV} {y0 : Int} {w : WS} {r : Nat} {o : Ro} (h : (y0 = 0 ∨ y0 = 1) ∧ o = (.inl (some (.inl y0)), w)) : K267_245 d0 d1 d2 d3 d4 d5 d6 d7 y0 w r o := by
  show Lg 267 245 [d0, d1, d2, d3, d4, d5, d6, d7] [(.inl y0)] w r o
  obtain ⟨g1, h⟩ := h
  exact (zq_zret (show zop 267 245 = some (.ireturn, 1) by decide +kernel) (by decide +kernel) g1 h)
theorem bK267_276 {d0 : Option AV} {d1 : Option AV} {d2 : Option AV} {d3 : Option AV} {d4 : Option AV} {d5 : Option AV} {d6 : Option AV} {d7 : Option AV} {y0 : Int} {w : WS} {r : Nat} {o : Ro} (h : (y0 = 0 ∨ y0 = 1) ∧ o = (.inl (some (.inl y0)), w)) : K267_276 d0 d1 d2 d3 d4 d5 d6 d7 y0 w r o := by
  show Lg 267 276 [d0, d1, d2, d3, d4, d5, d6, d7] [(.inl y0)] w r o
  obtain ⟨g1, h⟩ := h
  exact (zq_zret (show zop 267 276 = some (.ireturn, 1) by decide +kernel) (by decide +kernel) g1 h)
theorem bK267_271 {d0 : Option AV} {d1 : Option AV} {d2 : Option AV} {d3 : Option AV} {d4 : Option AV} {d5 : Option AV} {d6 : Option AV} {d7 : Option AV} {w : WS} {r : Nat} {o : Ro} (h : K267_276 d0 d1 d2 d3 d4 d5 d6 d7 1 w r o) : K267_271 d0 d1 d2 d3 d4 d5 d6 d7 w r o := by
  show Lg 267 271 [d0, d1, d2, d3, d4, d5, d6, d7] [] w r o
  refine zq_iconst 272 (show zop 267 271 = some (.iconst 1, 1) by decide +kernel) rfl rfl ?_
  refine zq_goto 276 (show zop 267 272 = some (.goto 4, 3) by decide +kernel) rfl ?_
  exact h
theorem bK267_290 {d2 : Option AV} {d3 : Option AV} {d4 : Option AV} {d5 : Option AV} {d6 : Option AV} {d7 : Option AV} {w : WS} {r : Nat} {o : Ro} (h : (0 ≤ r) ∧ (∃ (v2 : Int) (s1 : Sg), Dc 208 [(.inr (.inr (some 0)))] w.2.2 (.inl (some (.inl v2))) s1 ∧ ((wS w s1).1[0]? = some (0, 12, [])) ∧ (0 ≤ (3 : Int) ∧ (3 : Int) < 12) ∧ K267_305 (some (.inr (.inr (some 0)))) (some (.inr (.inr (some 682)))) d2 d3 d4 d5 d6 d7 (if v2 = ((wS w s1).2.1 682 ((3 : Int)).toNat) then 1 else 0) (wS w s1) r o)) : K267_290 d2 d3 d4 d5 d6 d7 w r o := by
  show Lg 267 290 [(some (.inr (.inr (some 0)))), (some (.inr (.inr (some 682)))), d2, d3, d4, d5, d6, d7] [] w r o
  refine zq_aload_n 291 (show zop 267 290 = some (.aload_n 0, 1) by decide +kernel) rfl rfl ?_
  obtain ⟨g4, h⟩ := h
  obtain ⟨v2, s1, hD3, h⟩ := h
  refine zq_vi (v := some (.inl v2)) (σ' := s1) (nj := 1) (j := 208) (c := 0) (t := []) (as := [(.inr (.inr (some 0)))]) 294 [(.inl v2)] (show zop 267 291 = some (.invokevirtual 211, 3) by decide +kernel) (by decide +kernel) rfl (by decide +kernel) rfl rfl rfl rfl rfl rfl (by decide +kernel) (by decide +kernel) (clS_0 rfl) hD3 rfl g4 ?_
  refine zq_aload_n 295 (show zop 267 294 = some (.aload_n 1, 1) by decide +kernel) rfl rfl ?_
  refine zq_iconst 296 (show zop 267 295 = some (.iconst 3, 1) by decide +kernel) rfl rfl ?_
  obtain ⟨g7, h⟩ := h
  obtain ⟨g5, h⟩ := h
  refine zq_iaload 297 12 (show zop 267 296 = some (.iaload, 1) by decide +kernel) rfl (by decide) g7 g5 ?_
  by_cases hc8 : v2 = ((wS w s1).2.1 682 ((3 : Int)).toNat)
  · refine zq_icmpF 300 304 (show zop 267 297 = some (.if_icmp .ne 7, 3) by decide +kernel) rfl rfl (decide_eq_false (fun h9 => h9 hc8)) ?_
    refine zq_iconst 301 (show zop 267 300 = some (.iconst 1, 1) by decide +kernel) rfl rfl ?_
    refine zq_goto 305 (show zop 267 301 = some (.goto 4, 3) by decide +kernel) rfl ?_
    have h9 := h; simp only [if_pos hc8] at h9; exact h9
  · refine zq_icmpT 304 (show zop 267 297 = some (.if_icmp .ne 7, 3) by decide +kernel) rfl (decide_eq_true hc8) ?_
    refine zq_iconst 305 (show zop 267 304 = some (.iconst 0, 1) by decide +kernel) rfl rfl ?_
    have h9 := h; simp only [if_neg hc8] at h9; exact h9
theorem bK267_324 {d2 : Option AV} {d3 : Option AV} {d4 : Option AV} {d5 : Option AV} {x6 : Int} {x7 : Int} {w : WS} {r : Nat} {o : Ro} (h : (w.1[0]? = some (0, 12, [])) ∧ (0 ≤ (3 : Int) ∧ (3 : Int) < 12) ∧ (-2147483648 ≤ ((w.2.1 682 ((3 : Int)).toNat) - 1) ∧ ((w.2.1 682 ((3 : Int)).toNat) - 1) ≤ 2147483647) ∧ (if x7 < ((w.2.1 682 ((3 : Int)).toNat) - 1) then (-2147483648 ≤ (6 + x7) ∧ (6 + x7) ≤ 2147483647) ∧ (-2147483648 ≤ (7 + x7) ∧ (7 + x7) ≤ 2147483647) ∧ (w.1[0]? = some (0, 12, [])) ∧ (0 ≤ (7 + x7) ∧ (7 + x7) < 12) ∧ (w.1[0]? = some (0, 12, [])) ∧ (0 ≤ (6 + x7) ∧ (6 + x7) < 12) ∧ (-2147483648 ≤ (x7 + 1) ∧ (x7 + 1) ≤ 2147483647) ∧ K267_324 d2 d3 d4 d5 x6 (x7 + 1) (wU w 682 ((6 + x7)).toNat (w.2.1 682 ((7 + x7)).toNat)) r o else (w.1[0]? = some (0, 12, [])) ∧ (0 ≤ (3 : Int) ∧ (3 : Int) < 12) ∧ (-2147483648 ≤ ((w.2.1 682 ((3 : Int)).toNat) - 1) ∧ ((w.2.1 682 ((3 : Int)).toNat) - 1) ≤ 2147483647) ∧ (w.1[0]? = some (0, 12, [])) ∧ (0 ≤ (3 : Int) ∧ (3 : Int) < 12) ∧ (2 ≤ r) ∧ (∃ (v22 : Int) (s21 : Sg), Dc 205 [(.inr (.inr (some 0))), (.inl x6)] (wU w 682 ((3 : Int)).toNat ((w.2.1 682 ((3 : Int)).toNat) - 1)).2.2 (.inl (some (.inl v22))) s21 ∧ ((wS (wU w 682 ((3 : Int)).toNat ((w.2.1 682 ((3 : Int)).toNat) - 1)) s21).1[0]? = some (0, 12, [])) ∧ (0 ≤ (3 : Int) ∧ (3 : Int) < 12) ∧ K267_378 (some (.inr (.inr (some 0)))) (some (.inr (.inr (some 682)))) d2 d3 d4 d5 (some (.inl x6)) (some (.inl x7)) (if v22 = ((wS (wU w 682 ((3 : Int)).toNat ((w.2.1 682 ((3 : Int)).toNat) - 1)) s21).2.1 682 ((3 : Int)).toNat) then 1 else 0) (wS (wU w 682 ((3 : Int)).toNat ((w.2.1 682 ((3 : Int)).toNat) - 1)) s21) (r - 2) o))) : K267_324 d2 d3 d4 d5 x6 x7 w r o := by
  show Lg 267 324 [(some (.inr (.inr (some 0)))), (some (.inr (.inr (some 682)))), d2, d3, d4, d5, (some (.inl x6)), (some (.inl x7))] [] w r o
  refine zq_iload 326 (show zop 267 324 = some (.iload 7, 2) by decide +kernel) rfl rfl ?_
  refine zq_aload_n 327 (show zop 267 326 = some (.aload_n 1, 1) by decide +kernel) rfl rfl ?_
  refine zq_iconst 328 (show zop 267 327 = some (.iconst 3, 1) by decide +kernel) rfl rfl ?_
  obtain ⟨g3, h⟩ := h
  obtain ⟨g1, h⟩ := h
  refine zq_iaload 329 12 (show zop 267 328 = some (.iaload, 1) by decide +kernel) rfl (by decide) g3 g1 ?_
  refine zq_iconst 330 (show zop 267 329 = some (.iconst 1, 1) by decide +kernel) rfl rfl ?_
  obtain ⟨g4, h⟩ := h
  refine zq_isub 331 (show zop 267 330 = some (.isub, 1) by decide +kernel) rfl g4 ?_
  by_cases hc28 : x7 < ((w.2.1 682 ((3 : Int)).toNat) - 1)
  · rw [if_pos hc28] at h
    refine zq_icmpF 334 354 (show zop 267 331 = some (.if_icmp .ge 23, 3) by decide +kernel) rfl rfl (decide_eq_false (Int.not_le.mpr hc28)) ?_
    refine zq_aload_n 335 (show zop 267 334 = some (.aload_n 1, 1) by decide +kernel) rfl rfl ?_
    refine zq_bipush 337 (show zop 267 335 = some (.bipush 6, 2) by decide +kernel) rfl (by decide) ?_
    refine zq_iload 339 (show zop 267 337 = some (.iload 7, 2) by decide +kernel) rfl rfl ?_
    obtain ⟨g5, h⟩ := h
    refine zq_iadd 340 (show zop 267 339 = some (.iadd, 1) by decide +kernel) rfl g5 ?_
    refine zq_aload_n 341 (show zop 267 340 = some (.aload_n 1, 1) by decide +kernel) rfl rfl ?_
    refine zq_bipush 343 (show zop 267 341 = some (.bipush 7, 2) by decide +kernel) rfl (by decide) ?_
    refine zq_iload 345 (show zop 267 343 = some (.iload 7, 2) by decide +kernel) rfl rfl ?_
    obtain ⟨g6, h⟩ := h
    refine zq_iadd 346 (show zop 267 345 = some (.iadd, 1) by decide +kernel) rfl g6 ?_
    obtain ⟨g9, h⟩ := h
    obtain ⟨g7, h⟩ := h
    refine zq_iaload 347 12 (show zop 267 346 = some (.iaload, 1) by decide +kernel) rfl (by decide) g9 g7 ?_
    obtain ⟨g12, h⟩ := h
    obtain ⟨g10, h⟩ := h
    refine zq_iastore 348 12 (show zop 267 347 = some (.iastore, 1) by decide +kernel) rfl (by decide) g12 g10 ?_
    obtain ⟨g13, h⟩ := h
    refine zq_iinc 351 [(some (.inr (.inr (some 0)))), (some (.inr (.inr (some 682)))), d2, d3, d4, d5, (some (.inl x6)), (some (.inl (x7 + 1)))] (show zop 267 348 = some (.iinc 7 1, 3) by decide +kernel) rfl rfl g13 rfl ?_
    refine zq_goto 324 (show zop 267 351 = some (.goto (-27), 3) by decide +kernel) rfl ?_
    exact h
  · rw [if_neg hc28] at h
    refine zq_icmpT 354 (show zop 267 331 = some (.if_icmp .ge 23, 3) by decide +kernel) rfl (decide_eq_true (Int.not_lt.mp hc28)) ?_
    refine zq_aload_n 355 (show zop 267 354 = some (.aload_n 1, 1) by decide +kernel) rfl rfl ?_
    refine zq_iconst 356 (show zop 267 355 = some (.iconst 3, 1) by decide +kernel) rfl rfl ?_
    refine zq_dup2 357 (show zop 267 356 = some (.dup2, 1) by decide +kernel) rfl rfl rfl ?_
    obtain ⟨g16, h⟩ := h
    obtain ⟨g14, h⟩ := h
    refine zq_iaload 358 12 (show zop 267 357 = some (.iaload, 1) by decide +kernel) rfl (by decide) g16 g14 ?_
    refine zq_iconst 359 (show zop 267 358 = some (.iconst 1, 1) by decide +kernel) rfl rfl ?_
    obtain ⟨g17, h⟩ := h
    refine zq_isub 360 (show zop 267 359 = some (.isub, 1) by decide +kernel) rfl g17 ?_
    obtain ⟨g20, h⟩ := h
    obtain ⟨g18, h⟩ := h
    refine zq_iastore 361 12 (show zop 267 360 = some (.iastore, 1) by decide +kernel) rfl (by decide) g20 g18 ?_
    refine zq_aload_n 362 (show zop 267 361 = some (.aload_n 0, 1) by decide +kernel) rfl rfl ?_
    refine zq_iload 364 (show zop 267 362 = some (.iload 6, 2) by decide +kernel) rfl rfl ?_
    obtain ⟨g24, h⟩ := h
    obtain ⟨v22, s21, hD23, h⟩ := h
    refine zq_vi (v := some (.inl v22)) (σ' := s21) (nj := 2) (j := 205) (c := 2) (t := []) (as := [(.inr (.inr (some 0))), (.inl x6)]) 367 [(.inl v22)] (show zop 267 364 = some (.invokevirtual 220, 3) by decide +kernel) (by decide +kernel) rfl (by decide +kernel) rfl rfl rfl rfl rfl rfl (by decide +kernel) (by decide +kernel) (clS_0 rfl) hD23 rfl g24 ?_
    refine zq_aload_n 368 (show zop 267 367 = some (.aload_n 1, 1) by decide +kernel) rfl rfl ?_
    refine zq_iconst 369 (show zop 267 368 = some (.iconst 3, 1) by decide +kernel) rfl rfl ?_
    obtain ⟨g27, h⟩ := h
    obtain ⟨g25, h⟩ := h
    refine zq_iaload 370 12 (show zop 267 369 = some (.iaload, 1) by decide +kernel) rfl (by decide) g27 g25 ?_
    by_cases hc29 : v22 = ((wS (wU w 682 ((3 : Int)).toNat ((w.2.1 682 ((3 : Int)).toNat) - 1)) s21).2.1 682 ((3 : Int)).toNat)
    · refine zq_icmpF 373 377 (show zop 267 370 = some (.if_icmp .ne 7, 3) by decide +kernel) rfl rfl (decide_eq_false (fun h9 => h9 hc29)) ?_
      refine zq_iconst 374 (show zop 267 373 = some (.iconst 1, 1) by decide +kernel) rfl rfl ?_
      refine zq_goto 378 (show zop 267 374 = some (.goto 4, 3) by decide +kernel) rfl ?_
      have h9 := h; simp only [if_pos hc29] at h9; exact h9
    · refine zq_icmpT 377 (show zop 267 370 = some (.if_icmp .ne 7, 3) by decide +kernel) rfl (decide_eq_true hc29) ?_
      refine zq_iconst 378 (show zop 267 377 = some (.iconst 0, 1) by decide +kernel) rfl rfl ?_
      have h9 := h; simp only [if_neg hc29] at h9; exact h9
theorem bK267_397 {d0 : Option AV} {d1 : Option AV} {d2 : Option AV} {d3 : Option AV} {d4 : Option AV} {d5 : Option AV} {d6 : Option AV} {d7 : Option AV} {y0 : Int} {w : WS} {r : Nat} {o : Ro} (h : (y0 = 0 ∨ y0 = 1) ∧ o = (.inl (some (.inl y0)), w)) : K267_397 d0 d1 d2 d3 d4 d5 d6 d7 y0 w r o := by
  show Lg 267 397 [d0, d1, d2, d3, d4, d5, d6, d7] [(.inl y0)] w r o
  obtain ⟨g1, h⟩ := h
  exact (zq_zret (show zop 267 397 = some (.ireturn, 1) by decide +kernel) (by decide +kernel) g1 h)
theorem bK267_446 {d0 : Option AV} {d1 : Option AV} {d2 : Option AV} {d3 : Option AV} {d4 : Option AV} {d5 : Option AV} {d6 : Option AV} {d7 : Option AV} {w : WS} {r : Nat} {o : Ro} (h : K267_447 d0 d1 d2 d3 d4 d5 d6 d7 0 w r o) : K267_446 d0 d1 d2 d3 d4 d5 d6 d7 w r o := by
  show Lg 267 446 [d0, d1, d2, d3, d4, d5, d6, d7] [] w r o
  refine zq_iconst 447 (show zop 267 446 = some (.iconst 0, 1) by decide +kernel) rfl rfl ?_
  exact h
theorem bK267_447 {d0 : Option AV} {d1 : Option AV} {d2 : Option AV} {d3 : Option AV} {d4 : Option AV} {d5 : Option AV} {d6 : Option AV} {d7 : Option AV} {y0 : Int} {w : WS} {r : Nat} {o : Ro} (h : (y0 = 0 ∨ y0 = 1) ∧ o = (.inl (some (.inl y0)), w)) : K267_447 d0 d1 d2 d3 d4 d5 d6 d7 y0 w r o := by
  show Lg 267 447 [d0, d1, d2, d3, d4, d5, d6, d7] [(.inl y0)] w r o
  obtain ⟨g1, h⟩ := h
  exact (zq_zret (show zop 267 447 = some (.ireturn, 1) by decide +kernel) (by decide +kernel) g1 h)
theorem bK267_473 {d0 : Option AV} {d1 : Option AV} {d2 : Option AV} {d3 : Option AV} {d4 : Option AV} {d5 : Option AV} {d6 : Option AV} {d7 : Option AV} {w : WS} {r : Nat} {o : Ro} (h : K267_478 d0 d1 d2 d3 d4 d5 d6 d7 1 w r o) : K267_473 d0 d1 d2 d3 d4 d5 d6 d7 w r o := by
  show Lg 267 473 [d0, d1, d2, d3, d4, d5, d6, d7] [] w r o
  refine zq_iconst 474 (show zop 267 473 = some (.iconst 1, 1) by decide +kernel) rfl rfl ?_
  refine zq_goto 478 (show zop 267 474 = some (.goto 4, 3) by decide +kernel) rfl ?_
  exact h
theorem bK267_478 {d0 : Option AV} {d1 : Option AV} {d2 : Option AV} {d3 : Option AV} {d4 : Option AV} {d5 : Option AV} {d6 : Option AV} {d7 : Option AV} {y0 : Int} {w : WS} {r : Nat} {o : Ro} (h : (y0 = 0 ∨ y0 = 1) ∧ o = (.inl (some (.inl y0)), w)) : K267_478 d0 d1 d2 d3 d4 d5 d6 d7 y0 w r o := by
  show Lg 267 478 [d0, d1, d2, d3, d4, d5, d6, d7] [(.inl y0)] w r o
  obtain ⟨g1, h⟩ := h
  exact (zq_zret (show zop 267 478 = some (.ireturn, 1) by decide +kernel) (by decide +kernel) g1 h)
theorem bK267_148 {d0 : Option AV} {d1 : Option AV} {d2 : Option AV} {d3 : Option AV} {d4 : Option AV} {d5 : Option AV} {d6 : Option AV} {d7 : Option AV} {y0 : Int} {w : WS} {r : Nat} {o : Ro} (h : (y0 = 0 ∨ y0 = 1) ∧ o = (.inl (some (.inl y0)), w)) : K267_148 d0 d1 d2 d3 d4 d5 d6 d7 y0 w r o := by
  show Lg 267 148 [d0, d1, d2, d3, d4, d5, d6, d7] [(.inl y0)] w r o
  obtain ⟨g1, h⟩ := h
  exact (zq_zret (show zop 267 148 = some (.ireturn, 1) by decide +kernel) (by decide +kernel) g1 h)
theorem bK267_149 {d2 : Option AV} {x3 : Int} {d4 : Option AV} {d5 : Option AV} {d6 : Option AV} {d7 : Option AV} {w : WS} {r : Nat} {o : Ro} (h : (w.1[0]? = some (0, 12, [])) ∧ (0 ≤ (5 : Int) ∧ (5 : Int) < 12) ∧ (if (w.2.1 682 ((5 : Int)).toNat) = 0 then K267_186 (some (.inr (.inr (some 0)))) (some (.inr (.inr (some 682)))) d2 (some (.inl x3)) d4 d5 d6 d7 w r o else (w.1[0]? = some (0, 12, [])) ∧ (0 ≤ (3 : Int) ∧ (3 : Int) < 12) ∧ (if (w.2.1 682 ((3 : Int)).toNat) = 5 then K267_186 (some (.inr (.inr (some 0)))) (some (.inr (.inr (some 682)))) d2 (some (.inl x3)) d4 d5 d6 d7 w r o else (w.1[0]? = some (0, 12, [])) ∧ (0 ≤ (0 : Int) ∧ (0 : Int) < 12) ∧ (if (w.2.1 682 ((0 : Int)).toNat) ≤ 21 then (250 ≤ r) ∧ (∃ (v11 : Int) (w10 : WS), Lx 269 [(.inr (.inr (some 0))), (.inr (.inr (some 682))), (.inl (Int.tmod x3 4)), (.inl (Int.tmod (Int.tdiv x3 4) 3))] w (.inl (some (.inl v11)), w10) ∧ (if v11 = 0 then K267_191 (some (.inr (.inr (some 0)))) (some (.inr (.inr (some 682)))) d2 (some (.inl x3)) d4 d5 d6 d7 0 w10 (r - 250) o else K267_186 (some (.inr (.inr (some 0)))) (some (.inr (.inr (some 682)))) d2 (some (.inl x3)) d4 d5 d6 d7 w10 (r - 250) o)) else K267_186 (some (.inr (.inr (some 0)))) (some (.inr (.inr (some 682)))) d2 (some (.inl x3)) d4 d5 d6 d7 w r o)))) : K267_149 d2 x3 d4 d5 d6 d7 w r o := by
  show Lg 267 149 [(some (.inr (.inr (some 0)))), (some (.inr (.inr (some 682)))), d2, (some (.inl x3)), d4, d5, d6, d7] [] w r o
  refine zq_aload_n 150 (show zop 267 149 = some (.aload_n 1, 1) by decide +kernel) rfl rfl ?_
  refine zq_iconst 151 (show zop 267 150 = some (.iconst 5, 1) by decide +kernel) rfl rfl ?_
  obtain ⟨g3, h⟩ := h
  obtain ⟨g1, h⟩ := h
  refine zq_iaload 152 12 (show zop 267 151 = some (.iaload, 1) by decide +kernel) rfl (by decide) g3 g1 ?_
  by_cases hc14 : (w.2.1 682 ((5 : Int)).toNat) = 0
  · rw [if_pos hc14] at h
    refine zq_ifT 186 (show zop 267 152 = some (.ifCond .eq 34, 3) by decide +kernel) rfl (decide_eq_true hc14) ?_
    exact h
  · rw [if_neg hc14] at h
    refine zq_ifF 155 186 (show zop 267 152 = some (.ifCond .eq 34, 3) by decide +kernel) rfl rfl (decide_eq_false hc14) ?_
    refine zq_aload_n 156 (show zop 267 155 = some (.aload_n 1, 1) by decide +kernel) rfl rfl ?_
    refine zq_iconst 157 (show zop 267 156 = some (.iconst 3, 1) by decide +kernel) rfl rfl ?_
    obtain ⟨g6, h⟩ := h
    obtain ⟨g4, h⟩ := h
    refine zq_iaload 158 12 (show zop 267 157 = some (.iaload, 1) by decide +kernel) rfl (by decide) g6 g4 ?_
    refine zq_iconst 159 (show zop 267 158 = some (.iconst 5, 1) by decide +kernel) rfl rfl ?_
    by_cases hc15 : (w.2.1 682 ((3 : Int)).toNat) = 5
    · rw [if_pos hc15] at h
      refine zq_icmpT 186 (show zop 267 159 = some (.if_icmp .eq 27, 3) by decide +kernel) rfl (decide_eq_true hc15) ?_
      exact h
    · rw [if_neg hc15] at h
      refine zq_icmpF 162 186 (show zop 267 159 = some (.if_icmp .eq 27, 3) by decide +kernel) rfl rfl (decide_eq_false hc15) ?_
      refine zq_aload_n 163 (show zop 267 162 = some (.aload_n 1, 1) by decide +kernel) rfl rfl ?_
      refine zq_iconst 164 (show zop 267 163 = some (.iconst 0, 1) by decide +kernel) rfl rfl ?_
      obtain ⟨g9, h⟩ := h
      obtain ⟨g7, h⟩ := h
      refine zq_iaload 165 12 (show zop 267 164 = some (.iaload, 1) by decide +kernel) rfl (by decide) g9 g7 ?_
      refine zq_bipush 167 (show zop 267 165 = some (.bipush 21, 2) by decide +kernel) rfl (by decide) ?_
      by_cases hc16 : (w.2.1 682 ((0 : Int)).toNat) ≤ 21
      · rw [if_pos hc16] at h
        refine zq_icmpF 170 186 (show zop 267 167 = some (.if_icmp .gt 19, 3) by decide +kernel) rfl rfl (decide_eq_false (Int.not_lt.mpr hc16)) ?_
        refine zq_aload_n 171 (show zop 267 170 = some (.aload_n 0, 1) by decide +kernel) rfl rfl ?_
        refine zq_aload_n 172 (show zop 267 171 = some (.aload_n 1, 1) by decide +kernel) rfl rfl ?_
        refine zq_iload_n 173 (show zop 267 172 = some (.iload_n 3, 1) by decide +kernel) rfl rfl ?_
        refine zq_iconst 174 (show zop 267 173 = some (.iconst 4, 1) by decide +kernel) rfl rfl ?_
        refine zq_irem 175 (show zop 267 174 = some (.irem, 1) by decide +kernel) rfl (by decide) ?_
        refine zq_iload_n 176 (show zop 267 175 = some (.iload_n 3, 1) by decide +kernel) rfl rfl ?_
        refine zq_iconst 177 (show zop 267 176 = some (.iconst 4, 1) by decide +kernel) rfl rfl ?_
        refine zq_idiv 178 (show zop 267 177 = some (.idiv, 1) by decide +kernel) rfl (by decide) ?_
        refine zq_iconst 179 (show zop 267 178 = some (.iconst 3, 1) by decide +kernel) rfl rfl ?_
        refine zq_irem 180 (show zop 267 179 = some (.irem, 1) by decide +kernel) rfl (by decide) ?_
        obtain ⟨g13, h⟩ := h
        obtain ⟨v11, w10, hD12, h⟩ := h
        refine zq_lx (v := some (.inl v11)) (w' := w10) (nj := 4) (j := 269) (c := 250) (t := []) (as := [(.inr (.inr (some 0))), (.inr (.inr (some 682))), (.inl (Int.tmod x3 4)), (.inl (Int.tmod (Int.tdiv x3 4) 3))]) 183 [(.inl v11)] (show zop 267 180 = some (.invokestatic 208, 3) by decide +kernel) (by decide +kernel) rfl (by decide +kernel) (by decide +kernel) rfl rfl rfl rfl rfl hD12 rfl g13 ?_
        by_cases hc17 : v11 = 0
        · rw [if_pos hc17] at h
          refine zq_ifT 190 (show zop 267 183 = some (.ifCond .eq 7, 3) by decide +kernel) rfl (decide_eq_true hc17) ?_
          refine zq_iconst 191 (show zop 267 190 = some (.iconst 0, 1) by decide +kernel) rfl rfl ?_
          exact h
        · rw [if_neg hc17] at h
          refine zq_ifF 186 190 (show zop 267 183 = some (.ifCond .eq 7, 3) by decide +kernel) rfl rfl (decide_eq_false hc17) ?_
          exact h
      · rw [if_neg hc16] at h
        refine zq_icmpT 186 (show zop 267 167 = some (.if_icmp .gt 19, 3) by decide +kernel) rfl (decide_eq_true (Int.not_le.mp hc16)) ?_
        exact h
theorem bK267_219 {d0 : Option AV} {d1 : Option AV} {d2 : Option AV} {d3 : Option AV} {d4 : Option AV} {d5 : Option AV} {d6 : Option AV} {d7 : Option AV} {y0 : Int} {w : WS} {r : Nat} {o : Ro} (h : (y0 = 0 ∨ y0 = 1) ∧ o = (.inl (some (.inl y0)), w)) : K267_219 d0 d1 d2 d3 d4 d5 d6 d7 y0 w r o := by
  show Lg 267 219 [d0, d1, d2, d3, d4, d5, d6, d7] [(.inl y0)] w r o
  obtain ⟨g1, h⟩ := h
  exact (zq_zret (show zop 267 219 = some (.ireturn, 1) by decide +kernel) (by decide +kernel) g1 h)
theorem bK267_305 {d0 : Option AV} {d1 : Option AV} {d2 : Option AV} {d3 : Option AV} {d4 : Option AV} {d5 : Option AV} {d6 : Option AV} {d7 : Option AV} {y0 : Int} {w : WS} {r : Nat} {o : Ro} (h : (y0 = 0 ∨ y0 = 1) ∧ o = (.inl (some (.inl y0)), w)) : K267_305 d0 d1 d2 d3 d4 d5 d6 d7 y0 w r o := by
  show Lg 267 305 [d0, d1, d2, d3, d4, d5, d6, d7] [(.inl y0)] w r o
  obtain ⟨g1, h⟩ := h
  exact (zq_zret (show zop 267 305 = some (.ireturn, 1) by decide +kernel) (by decide +kernel) g1 h)
theorem bK267_378 {d0 : Option AV} {d1 : Option AV} {d2 : Option AV} {d3 : Option AV} {d4 : Option AV} {d5 : Option AV} {d6 : Option AV} {d7 : Option AV} {y0 : Int} {w : WS} {r : Nat} {o : Ro} (h : (y0 = 0 ∨ y0 = 1) ∧ o = (.inl (some (.inl y0)), w)) : K267_378 d0 d1 d2 d3 d4 d5 d6 d7 y0 w r o := by
  show Lg 267 378 [d0, d1, d2, d3, d4, d5, d6, d7] [(.inl y0)] w r o
  obtain ⟨g1, h⟩ := h
  exact (zq_zret (show zop 267 378 = some (.ireturn, 1) by decide +kernel) (by decide +kernel) g1 h)
theorem bK267_186 {d0 : Option AV} {d1 : Option AV} {d2 : Option AV} {d3 : Option AV} {d4 : Option AV} {d5 : Option AV} {d6 : Option AV} {d7 : Option AV} {w : WS} {r : Nat} {o : Ro} (h : K267_191 d0 d1 d2 d3 d4 d5 d6 d7 1 w r o) : K267_186 d0 d1 d2 d3 d4 d5 d6 d7 w r o := by
  show Lg 267 186 [d0, d1, d2, d3, d4, d5, d6, d7] [] w r o
  refine zq_iconst 187 (show zop 267 186 = some (.iconst 1, 1) by decide +kernel) rfl rfl ?_
  refine zq_goto 191 (show zop 267 187 = some (.goto 4, 3) by decide +kernel) rfl ?_
  exact h
theorem bK267_191 {d0 : Option AV} {d1 : Option AV} {d2 : Option AV} {d3 : Option AV} {d4 : Option AV} {d5 : Option AV} {d6 : Option AV} {d7 : Option AV} {y0 : Int} {w : WS} {r : Nat} {o : Ro} (h : (y0 = 0 ∨ y0 = 1) ∧ o = (.inl (some (.inl y0)), w)) : K267_191 d0 d1 d2 d3 d4 d5 d6 d7 y0 w r o := by
  show Lg 267 191 [d0, d1, d2, d3, d4, d5, d6, d7] [(.inl y0)] w r o
  obtain ⟨g1, h⟩ := h
  exact (zq_zret (show zop 267 191 = some (.ireturn, 1) by decide +kernel) (by decide +kernel) g1 h)
/-- PatchBenchLaw.stack (LPatchBench;[III)Z -/
theorem lb267 {x2 : Int} {x3 : Int} {w : WS} {o : Ro} (h : (w.1[0]? = some (0, 12, [])) ∧ (0 ≤ (3 : Int) ∧ (3 : Int) < 12) ∧ (¬ ((w.2.1 682 ((3 : Int)).toNat) = 0) → w.1[0]? = some (0, 12, [])) ∧ (¬ ((w.2.1 682 ((3 : Int)).toNat) = 0) → 0 ≤ (3 : Int) ∧ (3 : Int) < 12) ∧ (¬ ((w.2.1 682 ((3 : Int)).toNat) = 0) → 0 < (w.2.1 682 ((3 : Int)).toNat)) ∧ K267_18 x2 x3 none none none none (if (w.2.1 682 ((3 : Int)).toNat) = 0 then 0 else (Int.tmod (Int.tdiv x2 8) (w.2.1 682 ((3 : Int)).toNat))) w 1200 o) : Lx 267 [(.inr (.inr (some 0))), (.inr (.inr (some 682))), (.inl x2), (.inl x3)] w o := by
  refine Lx_of (l := 8) (r := 1200) (by decide +kernel) (by decide +kernel) ?_
  show Lg 267 0 [(some (.inr (.inr (some 0)))), (some (.inr (.inr (some 682)))), (some (.inl x2)), (some (.inl x3)), none, none, none, none] [] w 1200 o
  refine zq_aload_n 1 (show zop 267 0 = some (.aload_n 1, 1) by decide +kernel) rfl rfl ?_
  refine zq_iconst 2 (show zop 267 1 = some (.iconst 3, 1) by decide +kernel) rfl rfl ?_
  obtain ⟨g3, h⟩ := h
  obtain ⟨g1, h⟩ := h
  refine zq_iaload 3 12 (show zop 267 2 = some (.iaload, 1) by decide +kernel) rfl (by decide) g3 g1 ?_
  obtain ⟨G9, G10, G11, h⟩ := h
  by_cases hc8 : (w.2.1 682 ((3 : Int)).toNat) = 0
  · refine zq_ifF 6 10 (show zop 267 3 = some (.ifCond .ne 7, 3) by decide +kernel) rfl rfl (decide_eq_false (fun h9 => h9 hc8)) ?_
    refine zq_iconst 7 (show zop 267 6 = some (.iconst 0, 1) by decide +kernel) rfl rfl ?_
    refine zq_goto 18 (show zop 267 7 = some (.goto 11, 3) by decide +kernel) rfl ?_
    have h9 := h; simp only [if_pos hc8] at h9; exact h9
  · refine zq_ifT 10 (show zop 267 3 = some (.ifCond .ne 7, 3) by decide +kernel) rfl (decide_eq_true hc8) ?_
    refine zq_iload_n 11 (show zop 267 10 = some (.iload_n 2, 1) by decide +kernel) rfl rfl ?_
    refine zq_bipush 13 (show zop 267 11 = some (.bipush 8, 2) by decide +kernel) rfl (by decide) ?_
    refine zq_idiv 14 (show zop 267 13 = some (.idiv, 1) by decide +kernel) rfl (by decide) ?_
    refine zq_aload_n 15 (show zop 267 14 = some (.aload_n 1, 1) by decide +kernel) rfl rfl ?_
    refine zq_iconst 16 (show zop 267 15 = some (.iconst 3, 1) by decide +kernel) rfl rfl ?_
    have g6 := G9 hc8
    have g4 := G10 hc8
    refine zq_iaload 17 12 (show zop 267 16 = some (.iaload, 1) by decide +kernel) rfl (by decide) g6 g4 ?_
    have g7 := G11 hc8
    refine zq_irem 18 (show zop 267 17 = some (.irem, 1) by decide +kernel) rfl g7 ?_
    have h9 := h; simp only [if_neg hc8] at h9; exact h9
def K268_18 (x1 : Int) (d2 : Option AV) (d3 : Option AV) (y0 : Int) (w : WS) (r : Nat) (o : Ro) : Prop := Lg 268 18 [(some (.inr (.inr (some 0)))), (some (.inl x1)), d2, d3] [(.inl y0)] w r o
def K268_21 (x1 : Int) (x2 : Int) (x3 : Int) (w : WS) (r : Nat) (o : Ro) : Prop := Lg 268 21 [(some (.inr (.inr (some 0)))), (some (.inl x1)), (some (.inl x2)), (some (.inl x3))] [] w r o
def K268_52 (x1 : Int) (d2 : Option AV) (x3 : Int) (w : WS) (r : Nat) (o : Ro) : Prop := Lg 268 52 [(some (.inr (.inr (some 0)))), (some (.inl x1)), d2, (some (.inl x3))] [] w r o
def K268_53 (x1 : Int) (d2 : Option AV) (x3 : Int) (y0 : Int) (w : WS) (r : Nat) (o : Ro) : Prop := Lg 268 53 [(some (.inr (.inr (some 0)))), (some (.inl x1)), d2, (some (.inl x3))] [(.inl y0)] w r o
theorem bK268_18 {x1 : Int} {d2 : Option AV} {d3 : Option AV} {y0 : Int} {w : WS} {r : Nat} {o : Ro} (h : K268_21 x1 y0 0 w r o) : K268_18 x1 d2 d3 y0 w r o := by
  show Lg 268 18 [(some (.inr (.inr (some 0)))), (some (.inl x1)), d2, d3] [(.inl y0)] w r o
  refine zq_istore_n 19 [(some (.inr (.inr (some 0)))), (some (.inl x1)), (some (.inl y0)), d3] (show zop 268 18 = some (.istore_n 2, 1) by decide +kernel) rfl rfl rfl ?_
  refine zq_iconst 20 (show zop 268 19 = some (.iconst 0, 1) by decide +kernel) rfl rfl ?_
  refine zq_istore_n 21 [(some (.inr (.inr (some 0)))), (some (.inl x1)), (some (.inl y0)), (some (.inl 0))] (show zop 268 20 = some (.istore_n 3, 1) by decide +kernel) rfl rfl rfl ?_
  exact h
theorem bK268_21 {x1 : Int} {x2 : Int} {x3 : Int} {w : WS} {r : Nat} {o : Ro} (h : (1 ≤ r) ∧ (∃ (v2 : Int) (s1 : Sg), Dc 175 [(.inr (.inr (some 0))), (.inl x1)] w.2.2 (.inl (some (.inl v2))) s1 ∧ (if x3 < v2 then (if x2 = 0 then K268_52 x1 (some (.inl x2)) x3 (wS w s1) (r - 1) o else (1 ≤ (r - 1)) ∧ (∃ (v6 : Int) (s5 : Sg), Dc 210 [(.inr (.inr (some 0))), (.inl x3)] (wS w s1).2.2 (.inl (some (.inl v6))) s5 ∧ (2 ≤ ((r - 1) - 1)) ∧ (∃ (v10 : Int) (s9 : Sg), Dc 176 [(.inr (.inr (some 0))), (.inl x1), (.inl x3)] (wS (wS w s1) s5).2.2 (.inl (some (.inl v10))) s9 ∧ (if v6 = v10 then K268_53 x1 (some (.inl x2)) x3 1 (wS (wS (wS w s1) s5) s9) (((r - 1) - 1) - 2) o else K268_52 x1 (some (.inl x2)) x3 (wS (wS (wS w s1) s5) s9) (((r - 1) - 1) - 2) o)))) else (x2 = 0 ∨ x2 = 1) ∧ o = (.inl (some (.inl x2)), (wS w s1))))) : K268_21 x1 x2 x3 w r o := by
  show Lg 268 21 [(some (.inr (.inr (some 0)))), (some (.inl x1)), (some (.inl x2)), (some (.inl x3))] [] w r o
  refine zq_iload_n 22 (show zop 268 21 = some (.iload_n 3, 1) by decide +kernel) rfl rfl ?_
  refine zq_aload_n 23 (show zop 268 22 = some (.aload_n 0, 1) by decide +kernel) rfl rfl ?_
  refine zq_iload_n 24 (show zop 268 23 = some (.iload_n 1, 1) by decide +kernel) rfl rfl ?_
  obtain ⟨g4, h⟩ := h
  obtain ⟨v2, s1, hD3, h⟩ := h
  refine zq_vi (v := some (.inl v2)) (σ' := s1) (nj := 2) (j := 175) (c := 1) (t := [(.inl x3)]) (as := [(.inr (.inr (some 0))), (.inl x1)]) 27 [(.inl v2), (.inl x3)] (show zop 268 24 = some (.invokevirtual 10, 3) by decide +kernel) (by decide +kernel) rfl (by decide +kernel) rfl rfl rfl rfl rfl rfl (by decide +kernel) (by decide +kernel) (clS_0 rfl) hD3 rfl g4 ?_
  by_cases hc14 : x3 < v2
  · rw [if_pos hc14] at h
    refine zq_icmpF 30 60 (show zop 268 27 = some (.if_icmp .ge 33, 3) by decide +kernel) rfl rfl (decide_eq_false (Int.not_le.mpr hc14)) ?_
    refine zq_iload_n 31 (show zop 268 30 = some (.iload_n 2, 1) by decide +kernel) rfl rfl ?_
    by_cases hc15 : x2 = 0
    · rw [if_pos hc15] at h
      refine zq_ifT 52 (show zop 268 31 = some (.ifCond .eq 21, 3) by decide +kernel) rfl (decide_eq_true hc15) ?_
      exact h
    · rw [if_neg hc15] at h
      refine zq_ifF 34 52 (show zop 268 31 = some (.ifCond .eq 21, 3) by decide +kernel) rfl rfl (decide_eq_false hc15) ?_
      refine zq_aload_n 35 (show zop 268 34 = some (.aload_n 0, 1) by decide +kernel) rfl rfl ?_
      refine zq_iload_n 36 (show zop 268 35 = some (.iload_n 3, 1) by decide +kernel) rfl rfl ?_
      obtain ⟨g8, h⟩ := h
      obtain ⟨v6, s5, hD7, h⟩ := h
      refine zq_vi (v := some (.inl v6)) (σ' := s5) (nj := 2) (j := 210) (c := 1) (t := []) (as := [(.inr (.inr (some 0))), (.inl x3)]) 39 [(.inl v6)] (show zop 268 36 = some (.invokevirtual 232, 3) by decide +kernel) (by decide +kernel) rfl (by decide +kernel) rfl rfl rfl rfl rfl rfl (by decide +kernel) (by decide +kernel) (clS_0 rfl) hD7 rfl g8 ?_
      refine zq_aload_n 40 (show zop 268 39 = some (.aload_n 0, 1) by decide +kernel) rfl rfl ?_
      refine zq_iload_n 41 (show zop 268 40 = some (.iload_n 1, 1) by decide +kernel) rfl rfl ?_
      refine zq_iload_n 42 (show zop 268 41 = some (.iload_n 3, 1) by decide +kernel) rfl rfl ?_
      obtain ⟨g12, h⟩ := h
      obtain ⟨v10, s9, hD11, h⟩ := h
      refine zq_vi (v := some (.inl v10)) (σ' := s9) (nj := 3) (j := 176) (c := 2) (t := [(.inl v6)]) (as := [(.inr (.inr (some 0))), (.inl x1), (.inl x3)]) 45 [(.inl v10), (.inl v6)] (show zop 268 42 = some (.invokevirtual 29, 3) by decide +kernel) (by decide +kernel) rfl (by decide +kernel) rfl rfl rfl rfl rfl rfl (by decide +kernel) (by decide +kernel) (clS_0 rfl) hD11 rfl g12 ?_
      by_cases hc16 : v6 = v10
      · rw [if_pos hc16] at h
        refine zq_icmpF 48 52 (show zop 268 45 = some (.if_icmp .ne 7, 3) by decide +kernel) rfl rfl (decide_eq_false (fun h9 => h9 hc16)) ?_
        refine zq_iconst 49 (show zop 268 48 = some (.iconst 1, 1) by decide +kernel) rfl rfl ?_
        refine zq_goto 53 (show zop 268 49 = some (.goto 4, 3) by decide +kernel) rfl ?_
        exact h
      · rw [if_neg hc16] at h
        refine zq_icmpT 52 (show zop 268 45 = some (.if_icmp .ne 7, 3) by decide +kernel) rfl (decide_eq_true hc16) ?_
        exact h
  · rw [if_neg hc14] at h
    refine zq_icmpT 60 (show zop 268 27 = some (.if_icmp .ge 33, 3) by decide +kernel) rfl (decide_eq_true (Int.not_lt.mp hc14)) ?_
    refine zq_iload_n 61 (show zop 268 60 = some (.iload_n 2, 1) by decide +kernel) rfl rfl ?_
    obtain ⟨g13, h⟩ := h
    exact (zq_zret (show zop 268 61 = some (.ireturn, 1) by decide +kernel) (by decide +kernel) g13 h)
theorem bK268_52 {x1 : Int} {d2 : Option AV} {x3 : Int} {w : WS} {r : Nat} {o : Ro} (h : K268_53 x1 d2 x3 0 w r o) : K268_52 x1 d2 x3 w r o := by
  show Lg 268 52 [(some (.inr (.inr (some 0)))), (some (.inl x1)), d2, (some (.inl x3))] [] w r o
  refine zq_iconst 53 (show zop 268 52 = some (.iconst 0, 1) by decide +kernel) rfl rfl ?_
  exact h
theorem bK268_53 {x1 : Int} {d2 : Option AV} {x3 : Int} {y0 : Int} {w : WS} {r : Nat} {o : Ro} (h : (-2147483648 ≤ (x3 + 1) ∧ (x3 + 1) ≤ 2147483647) ∧ K268_21 x1 y0 (x3 + 1) w r o) : K268_53 x1 d2 x3 y0 w r o := by
  show Lg 268 53 [(some (.inr (.inr (some 0)))), (some (.inl x1)), d2, (some (.inl x3))] [(.inl y0)] w r o
  refine zq_istore_n 54 [(some (.inr (.inr (some 0)))), (some (.inl x1)), (some (.inl y0)), (some (.inl x3))] (show zop 268 53 = some (.istore_n 2, 1) by decide +kernel) rfl rfl rfl ?_
  obtain ⟨g1, h⟩ := h
  refine zq_iinc 57 [(some (.inr (.inr (some 0)))), (some (.inl x1)), (some (.inl y0)), (some (.inl (x3 + 1)))] (show zop 268 54 = some (.iinc 3 1, 3) by decide +kernel) rfl rfl g1 rfl ?_
  refine zq_goto 21 (show zop 268 57 = some (.goto (-36), 3) by decide +kernel) rfl ?_
  exact h
/-- PatchBenchLaw.isTop (LPatchBench;I)Z -/
theorem lb268 {x1 : Int} {w : WS} {o : Ro} (h : (1 ≤ 100) ∧ (∃ (v2 : Int) (s1 : Sg), Dc 175 [(.inr (.inr (some 0))), (.inl x1)] w.2.2 (.inl (some (.inl v2))) s1 ∧ (1 ≤ (100 - 1)) ∧ (∃ (v6 : Int) (s5 : Sg), Dc 210 [(.inr (.inr (some 0))), (.inl v2)] (wS w s1).2.2 (.inl (some (.inl v6))) s5 ∧ K268_18 x1 none none (if v6 = (-1) then 1 else 0) (wS (wS w s1) s5) ((100 - 1) - 1) o))) : Lx 268 [(.inr (.inr (some 0))), (.inl x1)] w o := by
  refine Lx_of (l := 4) (r := 100) (by decide +kernel) (by decide +kernel) ?_
  show Lg 268 0 [(some (.inr (.inr (some 0)))), (some (.inl x1)), none, none] [] w 100 o
  refine zq_aload_n 1 (show zop 268 0 = some (.aload_n 0, 1) by decide +kernel) rfl rfl ?_
  refine zq_aload_n 2 (show zop 268 1 = some (.aload_n 0, 1) by decide +kernel) rfl rfl ?_
  refine zq_iload_n 3 (show zop 268 2 = some (.iload_n 1, 1) by decide +kernel) rfl rfl ?_
  obtain ⟨g4, h⟩ := h
  obtain ⟨v2, s1, hD3, h⟩ := h
  refine zq_vi (v := some (.inl v2)) (σ' := s1) (nj := 2) (j := 175) (c := 1) (t := [(.inr (.inr (some 0)))]) (as := [(.inr (.inr (some 0))), (.inl x1)]) 6 [(.inl v2), (.inr (.inr (some 0)))] (show zop 268 3 = some (.invokevirtual 10, 3) by decide +kernel) (by decide +kernel) rfl (by decide +kernel) rfl rfl rfl rfl rfl rfl (by decide +kernel) (by decide +kernel) (clS_0 rfl) hD3 rfl g4 ?_
  obtain ⟨g8, h⟩ := h
  obtain ⟨v6, s5, hD7, h⟩ := h
  refine zq_vi (v := some (.inl v6)) (σ' := s5) (nj := 2) (j := 210) (c := 1) (t := []) (as := [(.inr (.inr (some 0))), (.inl v2)]) 9 [(.inl v6)] (show zop 268 6 = some (.invokevirtual 232, 3) by decide +kernel) (by decide +kernel) rfl (by decide +kernel) rfl rfl rfl rfl rfl rfl (by decide +kernel) (by decide +kernel) (clS_0 rfl) hD7 rfl g8 ?_
  refine zq_iconst 10 (show zop 268 9 = some (.iconst (-1), 1) by decide +kernel) rfl rfl ?_
  by_cases hc9 : v6 = (-1)
  · refine zq_icmpF 13 17 (show zop 268 10 = some (.if_icmp .ne 7, 3) by decide +kernel) rfl rfl (decide_eq_false (fun h9 => h9 hc9)) ?_
    refine zq_iconst 14 (show zop 268 13 = some (.iconst 1, 1) by decide +kernel) rfl rfl ?_
    refine zq_goto 18 (show zop 268 14 = some (.goto 4, 3) by decide +kernel) rfl ?_
    have h9 := h; simp only [if_pos hc9] at h9; exact h9
  · refine zq_icmpT 17 (show zop 268 10 = some (.if_icmp .ne 7, 3) by decide +kernel) rfl (decide_eq_true hc9) ?_
    refine zq_iconst 18 (show zop 268 17 = some (.iconst 0, 1) by decide +kernel) rfl rfl ?_
    have h9 := h; simp only [if_neg hc9] at h9; exact h9
def K269_45 (x2 : Int) (d3 : Option AV) (x4 : Int) (d5 : Option AV) (d6 : Option AV) (w : WS) (r : Nat) (o : Ro) : Prop := Lg 269 45 [(some (.inr (.inr (some 0)))), (some (.inr (.inr (some 682)))), (some (.inl x2)), d3, (some (.inl x4)), d5, d6] [] w r o
def K269_46 (x2 : Int) (d3 : Option AV) (x4 : Int) (d5 : Option AV) (d6 : Option AV) (y0 : Int) (w : WS) (r : Nat) (o : Ro) : Prop := Lg 269 46 [(some (.inr (.inr (some 0)))), (some (.inr (.inr (some 682)))), (some (.inl x2)), d3, (some (.inl x4)), d5, d6] [(.inl y0)] w r o
def K269_120 (d0 : Option AV) (d1 : Option AV) (d2 : Option AV) (d3 : Option AV) (d4 : Option AV) (d5 : Option AV) (d6 : Option AV) (w : WS) (r : Nat) (o : Ro) : Prop := Lg 269 120 [d0, d1, d2, d3, d4, d5, d6] [] w r o
def K269_121 (d0 : Option AV) (d1 : Option AV) (d2 : Option AV) (d3 : Option AV) (d4 : Option AV) (d5 : Option AV) (d6 : Option AV) (y0 : Int) (w : WS) (r : Nat) (o : Ro) : Prop := Lg 269 121 [d0, d1, d2, d3, d4, d5, d6] [(.inl y0)] w r o
theorem bK269_45 {x2 : Int} {d3 : Option AV} {x4 : Int} {d5 : Option AV} {d6 : Option AV} {w : WS} {r : Nat} {o : Ro} (h : K269_46 x2 d3 x4 d5 d6 0 w r o) : K269_45 x2 d3 x4 d5 d6 w r o := by
  show Lg 269 45 [(some (.inr (.inr (some 0)))), (some (.inr (.inr (some 682)))), (some (.inl x2)), d3, (some (.inl x4)), d5, d6] [] w r o
  refine zq_iconst 46 (show zop 269 45 = some (.iconst 0, 1) by decide +kernel) rfl rfl ?_
  exact h
theorem bK269_46 {x2 : Int} {d3 : Option AV} {x4 : Int} {d5 : Option AV} {d6 : Option AV} {y0 : Int} {w : WS} {r : Nat} {o : Ro} (h : (w.1[0]? = some (0, 12, [])) ∧ (0 ≤ (3 : Int) ∧ (3 : Int) < 12) ∧ (-2147483648 ≤ (6 + (w.2.1 682 ((3 : Int)).toNat)) ∧ (6 + (w.2.1 682 ((3 : Int)).toNat)) ≤ 2147483647) ∧ (w.1[0]? = some (0, 12, [])) ∧ (0 ≤ (4 : Int) ∧ (4 : Int) < 12) ∧ (w.1[0]? = some (0, 12, [])) ∧ (0 ≤ (6 + (w.2.1 682 ((3 : Int)).toNat)) ∧ (6 + (w.2.1 682 ((3 : Int)).toNat)) < 12) ∧ ((wU w 682 ((6 + (w.2.1 682 ((3 : Int)).toNat))).toNat (w.2.1 682 ((4 : Int)).toNat)).1[0]? = some (0, 12, [])) ∧ (0 ≤ (3 : Int) ∧ (3 : Int) < 12) ∧ (-2147483648 ≤ (((wU w 682 ((6 + (w.2.1 682 ((3 : Int)).toNat))).toNat (w.2.1 682 ((4 : Int)).toNat)).2.1 682 ((3 : Int)).toNat) + 1) ∧ (((wU w 682 ((6 + (w.2.1 682 ((3 : Int)).toNat))).toNat (w.2.1 682 ((4 : Int)).toNat)).2.1 682 ((3 : Int)).toNat) + 1) ≤ 2147483647) ∧ ((wU w 682 ((6 + (w.2.1 682 ((3 : Int)).toNat))).toNat (w.2.1 682 ((4 : Int)).toNat)).1[0]? = some (0, 12, [])) ∧ (0 ≤ (3 : Int) ∧ (3 : Int) < 12) ∧ ((wU (wU w 682 ((6 + (w.2.1 682 ((3 : Int)).toNat))).toNat (w.2.1 682 ((4 : Int)).toNat)) 682 ((3 : Int)).toNat (((wU w 682 ((6 + (w.2.1 682 ((3 : Int)).toNat))).toNat (w.2.1 682 ((4 : Int)).toNat)).2.1 682 ((3 : Int)).toNat) + 1)).1[0]? = some (0, 12, [])) ∧ (0 ≤ (4 : Int) ∧ (4 : Int) < 12) ∧ (-2147483648 ≤ (((wU (wU w 682 ((6 + (w.2.1 682 ((3 : Int)).toNat))).toNat (w.2.1 682 ((4 : Int)).toNat)) 682 ((3 : Int)).toNat (((wU w 682 ((6 + (w.2.1 682 ((3 : Int)).toNat))).toNat (w.2.1 682 ((4 : Int)).toNat)).2.1 682 ((3 : Int)).toNat) + 1)).2.1 682 ((4 : Int)).toNat) + 1) ∧ (((wU (wU w 682 ((6 + (w.2.1 682 ((3 : Int)).toNat))).toNat (w.2.1 682 ((4 : Int)).toNat)) 682 ((3 : Int)).toNat (((wU w 682 ((6 + (w.2.1 682 ((3 : Int)).toNat))).toNat (w.2.1 682 ((4 : Int)).toNat)).2.1 682 ((3 : Int)).toNat) + 1)).2.1 682 ((4 : Int)).toNat) + 1) ≤ 2147483647) ∧ ((wU (wU w 682 ((6 + (w.2.1 682 ((3 : Int)).toNat))).toNat (w.2.1 682 ((4 : Int)).toNat)) 682 ((3 : Int)).toNat (((wU w 682 ((6 + (w.2.1 682 ((3 : Int)).toNat))).toNat (w.2.1 682 ((4 : Int)).toNat)).2.1 682 ((3 : Int)).toNat) + 1)).1[0]? = some (0, 12, [])) ∧ (0 ≤ (4 : Int) ∧ (4 : Int) < 12) ∧ (-2147483648 ≤ (x2 + 1) ∧ (x2 + 1) ≤ 2147483647) ∧ ((wU (wU (wU w 682 ((6 + (w.2.1 682 ((3 : Int)).toNat))).toNat (w.2.1 682 ((4 : Int)).toNat)) 682 ((3 : Int)).toNat (((wU w 682 ((6 + (w.2.1 682 ((3 : Int)).toNat))).toNat (w.2.1 682 ((4 : Int)).toNat)).2.1 682 ((3 : Int)).toNat) + 1)) 682 ((4 : Int)).toNat (((wU (wU w 682 ((6 + (w.2.1 682 ((3 : Int)).toNat))).toNat (w.2.1 682 ((4 : Int)).toNat)) 682 ((3 : Int)).toNat (((wU w 682 ((6 + (w.2.1 682 ((3 : Int)).toNat))).toNat (w.2.1 682 ((4 : Int)).toNat)).2.1 682 ((3 : Int)).toNat) + 1)).2.1 682 ((4 : Int)).toNat) + 1)).1[0]? = some (0, 12, [])) ∧ (0 ≤ (5 : Int) ∧ (5 : Int) < 12) ∧ (if y0 = 0 then K269_120 (some (.inr (.inr (some 0)))) (some (.inr (.inr (some 682)))) (some (.inl x2)) d3 (some (.inl x4)) d5 (some (.inl y0)) (wU (wU (wU (wU w 682 ((6 + (w.2.1 682 ((3 : Int)).toNat))).toNat (w.2.1 682 ((4 : Int)).toNat)) 682 ((3 : Int)).toNat (((wU w 682 ((6 + (w.2.1 682 ((3 : Int)).toNat))).toNat (w.2.1 682 ((4 : Int)).toNat)).2.1 682 ((3 : Int)).toNat) + 1)) 682 ((4 : Int)).toNat (((wU (wU w 682 ((6 + (w.2.1 682 ((3 : Int)).toNat))).toNat (w.2.1 682 ((4 : Int)).toNat)) 682 ((3 : Int)).toNat (((wU w 682 ((6 + (w.2.1 682 ((3 : Int)).toNat))).toNat (w.2.1 682 ((4 : Int)).toNat)).2.1 682 ((3 : Int)).toNat) + 1)).2.1 682 ((4 : Int)).toNat) + 1)) 682 ((5 : Int)).toNat (x2 + 1)) r o else (3 ≤ r) ∧ (∃ (v30 : Int) (s29 : Sg), Dc 201 [(.inr (.inr (some 0))), (.inl x4)] (wU (wU (wU (wU w 682 ((6 + (w.2.1 682 ((3 : Int)).toNat))).toNat (w.2.1 682 ((4 : Int)).toNat)) 682 ((3 : Int)).toNat (((wU w 682 ((6 + (w.2.1 682 ((3 : Int)).toNat))).toNat (w.2.1 682 ((4 : Int)).toNat)).2.1 682 ((3 : Int)).toNat) + 1)) 682 ((4 : Int)).toNat (((wU (wU w 682 ((6 + (w.2.1 682 ((3 : Int)).toNat))).toNat (w.2.1 682 ((4 : Int)).toNat)) 682 ((3 : Int)).toNat (((wU w 682 ((6 + (w.2.1 682 ((3 : Int)).toNat))).toNat (w.2.1 682 ((4 : Int)).toNat)).2.1 682 ((3 : Int)).toNat) + 1)).2.1 682 ((4 : Int)).toNat) + 1)) 682 ((5 : Int)).toNat (x2 + 1)).2.2 (.inl (some (.inl v30))) s29 ∧ ((wS (wU (wU (wU (wU w 682 ((6 + (w.2.1 682 ((3 : Int)).toNat))).toNat (w.2.1 682 ((4 : Int)).toNat)) 682 ((3 : Int)).toNat (((wU w 682 ((6 + (w.2.1 682 ((3 : Int)).toNat))).toNat (w.2.1 682 ((4 : Int)).toNat)).2.1 682 ((3 : Int)).toNat) + 1)) 682 ((4 : Int)).toNat (((wU (wU w 682 ((6 + (w.2.1 682 ((3 : Int)).toNat))).toNat (w.2.1 682 ((4 : Int)).toNat)) 682 ((3 : Int)).toNat (((wU w 682 ((6 + (w.2.1 682 ((3 : Int)).toNat))).toNat (w.2.1 682 ((4 : Int)).toNat)).2.1 682 ((3 : Int)).toNat) + 1)).2.1 682 ((4 : Int)).toNat) + 1)) 682 ((5 : Int)).toNat (x2 + 1)) s29).1[0]? = some (0, 12, [])) ∧ (0 ≤ (4 : Int) ∧ (4 : Int) < 12) ∧ (-2147483648 ≤ (((wS (wU (wU (wU (wU w 682 ((6 + (w.2.1 682 ((3 : Int)).toNat))).toNat (w.2.1 682 ((4 : Int)).toNat)) 682 ((3 : Int)).toNat (((wU w 682 ((6 + (w.2.1 682 ((3 : Int)).toNat))).toNat (w.2.1 682 ((4 : Int)).toNat)).2.1 682 ((3 : Int)).toNat) + 1)) 682 ((4 : Int)).toNat (((wU (wU w 682 ((6 + (w.2.1 682 ((3 : Int)).toNat))).toNat (w.2.1 682 ((4 : Int)).toNat)) 682 ((3 : Int)).toNat (((wU w 682 ((6 + (w.2.1 682 ((3 : Int)).toNat))).toNat (w.2.1 682 ((4 : Int)).toNat)).2.1 682 ((3 : Int)).toNat) + 1)).2.1 682 ((4 : Int)).toNat) + 1)) 682 ((5 : Int)).toNat (x2 + 1)) s29).2.1 682 ((4 : Int)).toNat) - 1) ∧ (((wS (wU (wU (wU (wU w 682 ((6 + (w.2.1 682 ((3 : Int)).toNat))).toNat (w.2.1 682 ((4 : Int)).toNat)) 682 ((3 : Int)).toNat (((wU w 682 ((6 + (w.2.1 682 ((3 : Int)).toNat))).toNat (w.2.1 682 ((4 : Int)).toNat)).2.1 682 ((3 : Int)).toNat) + 1)) 682 ((4 : Int)).toNat (((wU (wU w 682 ((6 + (w.2.1 682 ((3 : Int)).toNat))).toNat (w.2.1 682 ((4 : Int)).toNat)) 682 ((3 : Int)).toNat (((wU w 682 ((6 + (w.2.1 682 ((3 : Int)).toNat))).toNat (w.2.1 682 ((4 : Int)).toNat)).2.1 682 ((3 : Int)).toNat) + 1)).2.1 682 ((4 : Int)).toNat) + 1)) 682 ((5 : Int)).toNat (x2 + 1)) s29).2.1 682 ((4 : Int)).toNat) - 1) ≤ 2147483647) ∧ (if v30 = (((wS (wU (wU (wU (wU w 682 ((6 + (w.2.1 682 ((3 : Int)).toNat))).toNat (w.2.1 682 ((4 : Int)).toNat)) 682 ((3 : Int)).toNat (((wU w 682 ((6 + (w.2.1 682 ((3 : Int)).toNat))).toNat (w.2.1 682 ((4 : Int)).toNat)).2.1 682 ((3 : Int)).toNat) + 1)) 682 ((4 : Int)).toNat (((wU (wU w 682 ((6 + (w.2.1 682 ((3 : Int)).toNat))).toNat (w.2.1 682 ((4 : Int)).toNat)) 682 ((3 : Int)).toNat (((wU w 682 ((6 + (w.2.1 682 ((3 : Int)).toNat))).toNat (w.2.1 682 ((4 : Int)).toNat)).2.1 682 ((3 : Int)).toNat) + 1)).2.1 682 ((4 : Int)).toNat) + 1)) 682 ((5 : Int)).toNat (x2 + 1)) s29).2.1 682 ((4 : Int)).toNat) - 1) then (0 ≤ (r - 3)) ∧ (∃ (v38 : Int) (s37 : Sg), Dc 208 [(.inr (.inr (some 0)))] (wS (wU (wU (wU (wU w 682 ((6 + (w.2.1 682 ((3 : Int)).toNat))).toNat (w.2.1 682 ((4 : Int)).toNat)) 682 ((3 : Int)).toNat (((wU w 682 ((6 + (w.2.1 682 ((3 : Int)).toNat))).toNat (w.2.1 682 ((4 : Int)).toNat)).2.1 682 ((3 : Int)).toNat) + 1)) 682 ((4 : Int)).toNat (((wU (wU w 682 ((6 + (w.2.1 682 ((3 : Int)).toNat))).toNat (w.2.1 682 ((4 : Int)).toNat)) 682 ((3 : Int)).toNat (((wU w 682 ((6 + (w.2.1 682 ((3 : Int)).toNat))).toNat (w.2.1 682 ((4 : Int)).toNat)).2.1 682 ((3 : Int)).toNat) + 1)).2.1 682 ((4 : Int)).toNat) + 1)) 682 ((5 : Int)).toNat (x2 + 1)) s29).2.2 (.inl (some (.inl v38))) s37 ∧ ((wS (wS (wU (wU (wU (wU w 682 ((6 + (w.2.1 682 ((3 : Int)).toNat))).toNat (w.2.1 682 ((4 : Int)).toNat)) 682 ((3 : Int)).toNat (((wU w 682 ((6 + (w.2.1 682 ((3 : Int)).toNat))).toNat (w.2.1 682 ((4 : Int)).toNat)).2.1 682 ((3 : Int)).toNat) + 1)) 682 ((4 : Int)).toNat (((wU (wU w 682 ((6 + (w.2.1 682 ((3 : Int)).toNat))).toNat (w.2.1 682 ((4 : Int)).toNat)) 682 ((3 : Int)).toNat (((wU w 682 ((6 + (w.2.1 682 ((3 : Int)).toNat))).toNat (w.2.1 682 ((4 : Int)).toNat)).2.1 682 ((3 : Int)).toNat) + 1)).2.1 682 ((4 : Int)).toNat) + 1)) 682 ((5 : Int)).toNat (x2 + 1)) s29) s37).1[0]? = some (0, 12, [])) ∧ (0 ≤ (3 : Int) ∧ (3 : Int) < 12) ∧ (if v38 = ((wS (wS (wU (wU (wU (wU w 682 ((6 + (w.2.1 682 ((3 : Int)).toNat))).toNat (w.2.1 682 ((4 : Int)).toNat)) 682 ((3 : Int)).toNat (((wU w 682 ((6 + (w.2.1 682 ((3 : Int)).toNat))).toNat (w.2.1 682 ((4 : Int)).toNat)).2.1 682 ((3 : Int)).toNat) + 1)) 682 ((4 : Int)).toNat (((wU (wU w 682 ((6 + (w.2.1 682 ((3 : Int)).toNat))).toNat (w.2.1 682 ((4 : Int)).toNat)) 682 ((3 : Int)).toNat (((wU w 682 ((6 + (w.2.1 682 ((3 : Int)).toNat))).toNat (w.2.1 682 ((4 : Int)).toNat)).2.1 682 ((3 : Int)).toNat) + 1)).2.1 682 ((4 : Int)).toNat) + 1)) 682 ((5 : Int)).toNat (x2 + 1)) s29) s37).2.1 682 ((3 : Int)).toNat) then (100 ≤ (r - 3)) ∧ (∃ (v45 : Int) (w44 : WS), Lx 268 [(.inr (.inr (some 0))), (.inl x2)] (wS (wS (wU (wU (wU (wU w 682 ((6 + (w.2.1 682 ((3 : Int)).toNat))).toNat (w.2.1 682 ((4 : Int)).toNat)) 682 ((3 : Int)).toNat (((wU w 682 ((6 + (w.2.1 682 ((3 : Int)).toNat))).toNat (w.2.1 682 ((4 : Int)).toNat)).2.1 682 ((3 : Int)).toNat) + 1)) 682 ((4 : Int)).toNat (((wU (wU w 682 ((6 + (w.2.1 682 ((3 : Int)).toNat))).toNat (w.2.1 682 ((4 : Int)).toNat)) 682 ((3 : Int)).toNat (((wU w 682 ((6 + (w.2.1 682 ((3 : Int)).toNat))).toNat (w.2.1 682 ((4 : Int)).toNat)).2.1 682 ((3 : Int)).toNat) + 1)).2.1 682 ((4 : Int)).toNat) + 1)) 682 ((5 : Int)).toNat (x2 + 1)) s29) s37) (.inl (some (.inl v45)), w44) ∧ (if v45 = 0 then K269_120 (some (.inr (.inr (some 0)))) (some (.inr (.inr (some 682)))) (some (.inl x2)) d3 (some (.inl x4)) d5 (some (.inl y0)) w44 ((r - 3) - 100) o else K269_121 (some (.inr (.inr (some 0)))) (some (.inr (.inr (some 682)))) (some (.inl x2)) d3 (some (.inl x4)) d5 (some (.inl y0)) 1 w44 ((r - 3) - 100) o)) else K269_120 (some (.inr (.inr (some 0)))) (some (.inr (.inr (some 682)))) (some (.inl x2)) d3 (some (.inl x4)) d5 (some (.inl y0)) (wS (wS (wU (wU (wU (wU w 682 ((6 + (w.2.1 682 ((3 : Int)).toNat))).toNat (w.2.1 682 ((4 : Int)).toNat)) 682 ((3 : Int)).toNat (((wU w 682 ((6 + (w.2.1 682 ((3 : Int)).toNat))).toNat (w.2.1 682 ((4 : Int)).toNat)).2.1 682 ((3 : Int)).toNat) + 1)) 682 ((4 : Int)).toNat (((wU (wU w 682 ((6 + (w.2.1 682 ((3 : Int)).toNat))).toNat (w.2.1 682 ((4 : Int)).toNat)) 682 ((3 : Int)).toNat (((wU w 682 ((6 + (w.2.1 682 ((3 : Int)).toNat))).toNat (w.2.1 682 ((4 : Int)).toNat)).2.1 682 ((3 : Int)).toNat) + 1)).2.1 682 ((4 : Int)).toNat) + 1)) 682 ((5 : Int)).toNat (x2 + 1)) s29) s37) (r - 3) o)) else K269_120 (some (.inr (.inr (some 0)))) (some (.inr (.inr (some 682)))) (some (.inl x2)) d3 (some (.inl x4)) d5 (some (.inl y0)) (wS (wU (wU (wU (wU w 682 ((6 + (w.2.1 682 ((3 : Int)).toNat))).toNat (w.2.1 682 ((4 : Int)).toNat)) 682 ((3 : Int)).toNat (((wU w 682 ((6 + (w.2.1 682 ((3 : Int)).toNat))).toNat (w.2.1 682 ((4 : Int)).toNat)).2.1 682 ((3 : Int)).toNat) + 1)) 682 ((4 : Int)).toNat (((wU (wU w 682 ((6 + (w.2.1 682 ((3 : Int)).toNat))).toNat (w.2.1 682 ((4 : Int)).toNat)) 682 ((3 : Int)).toNat (((wU w 682 ((6 + (w.2.1 682 ((3 : Int)).toNat))).toNat (w.2.1 682 ((4 : Int)).toNat)).2.1 682 ((3 : Int)).toNat) + 1)).2.1 682 ((4 : Int)).toNat) + 1)) 682 ((5 : Int)).toNat (x2 + 1)) s29) (r - 3) o)))) : K269_46 x2 d3 x4 d5 d6 y0 w r o := by
  show Lg 269 46 [(some (.inr (.inr (some 0)))), (some (.inr (.inr (some 682)))), (some (.inl x2)), d3, (some (.inl x4)), d5, d6] [(.inl y0)] w r o
  refine zq_istore 48 [(some (.inr (.inr (some 0)))), (some (.inr (.inr (some 682)))), (some (.inl x2)), d3, (some (.inl x4)), d5, (some (.inl y0))] (show zop 269 46 = some (.istore 6, 2) by decide +kernel) rfl rfl rfl ?_
  refine zq_aload_n 49 (show zop 269 48 = some (.aload_n 1, 1) by decide +kernel) rfl rfl ?_
  refine zq_bipush 51 (show zop 269 49 = some (.bipush 6, 2) by decide +kernel) rfl (by decide) ?_
  refine zq_aload_n 52 (show zop 269 51 = some (.aload_n 1, 1) by decide +kernel) rfl rfl ?_
  refine zq_iconst 53 (show zop 269 52 = some (.iconst 3, 1) by decide +kernel) rfl rfl ?_
  obtain ⟨g3, h⟩ := h
  obtain ⟨g1, h⟩ := h
  refine zq_iaload 54 12 (show zop 269 53 = some (.iaload, 1) by decide +kernel) rfl (by decide) g3 g1 ?_
  obtain ⟨g4, h⟩ := h
  refine zq_iadd 55 (show zop 269 54 = some (.iadd, 1) by decide +kernel) rfl g4 ?_
  refine zq_aload_n 56 (show zop 269 55 = some (.aload_n 1, 1) by decide +kernel) rfl rfl ?_
  refine zq_iconst 57 (show zop 269 56 = some (.iconst 4, 1) by decide +kernel) rfl rfl ?_
  obtain ⟨g7, h⟩ := h
  obtain ⟨g5, h⟩ := h
  refine zq_iaload 58 12 (show zop 269 57 = some (.iaload, 1) by decide +kernel) rfl (by decide) g7 g5 ?_
  obtain ⟨g10, h⟩ := h
  obtain ⟨g8, h⟩ := h
  refine zq_iastore 59 12 (show zop 269 58 = some (.iastore, 1) by decide +kernel) rfl (by decide) g10 g8 ?_
  refine zq_aload_n 60 (show zop 269 59 = some (.aload_n 1, 1) by decide +kernel) rfl rfl ?_
  refine zq_iconst 61 (show zop 269 60 = some (.iconst 3, 1) by decide +kernel) rfl rfl ?_
  refine zq_dup2 62 (show zop 269 61 = some (.dup2, 1) by decide +kernel) rfl rfl rfl ?_
  obtain ⟨g13, h⟩ := h
  obtain ⟨g11, h⟩ := h
  refine zq_iaload 63 12 (show zop 269 62 = some (.iaload, 1) by decide +kernel) rfl (by decide) g13 g11 ?_
  refine zq_iconst 64 (show zop 269 63 = some (.iconst 1, 1) by decide +kernel) rfl rfl ?_
  obtain ⟨g14, h⟩ := h
  refine zq_iadd 65 (show zop 269 64 = some (.iadd, 1) by decide +kernel) rfl g14 ?_
  obtain ⟨g17, h⟩ := h
  obtain ⟨g15, h⟩ := h
  refine zq_iastore 66 12 (show zop 269 65 = some (.iastore, 1) by decide +kernel) rfl (by decide) g17 g15 ?_
  refine zq_aload_n 67 (show zop 269 66 = some (.aload_n 1, 1) by decide +kernel) rfl rfl ?_
  refine zq_iconst 68 (show zop 269 67 = some (.iconst 4, 1) by decide +kernel) rfl rfl ?_
  refine zq_dup2 69 (show zop 269 68 = some (.dup2, 1) by decide +kernel) rfl rfl rfl ?_
  obtain ⟨g20, h⟩ := h
  obtain ⟨g18, h⟩ := h
  refine zq_iaload 70 12 (show zop 269 69 = some (.iaload, 1) by decide +kernel) rfl (by decide) g20 g18 ?_
  refine zq_iconst 71 (show zop 269 70 = some (.iconst 1, 1) by decide +kernel) rfl rfl ?_
  obtain ⟨g21, h⟩ := h
  refine zq_iadd 72 (show zop 269 71 = some (.iadd, 1) by decide +kernel) rfl g21 ?_
  obtain ⟨g24, h⟩ := h
  obtain ⟨g22, h⟩ := h
  refine zq_iastore 73 12 (show zop 269 72 = some (.iastore, 1) by decide +kernel) rfl (by decide) g24 g22 ?_
  refine zq_aload_n 74 (show zop 269 73 = some (.aload_n 1, 1) by decide +kernel) rfl rfl ?_
  refine zq_iconst 75 (show zop 269 74 = some (.iconst 5, 1) by decide +kernel) rfl rfl ?_
  refine zq_iload_n 76 (show zop 269 75 = some (.iload_n 2, 1) by decide +kernel) rfl rfl ?_
  refine zq_iconst 77 (show zop 269 76 = some (.iconst 1, 1) by decide +kernel) rfl rfl ?_
  obtain ⟨g25, h⟩ := h
  refine zq_iadd 78 (show zop 269 77 = some (.iadd, 1) by decide +kernel) rfl g25 ?_
  obtain ⟨g28, h⟩ := h
  obtain ⟨g26, h⟩ := h
  refine zq_iastore 79 12 (show zop 269 78 = some (.iastore, 1) by decide +kernel) rfl (by decide) g28 g26 ?_
  refine zq_iload 81 (show zop 269 79 = some (.iload 6, 2) by decide +kernel) rfl rfl ?_
  by_cases hc48 : y0 = 0
  · rw [if_pos hc48] at h
    refine zq_ifT 120 (show zop 269 81 = some (.ifCond .eq 39, 3) by decide +kernel) rfl (decide_eq_true hc48) ?_
    exact h
  · rw [if_neg hc48] at h
    refine zq_ifF 84 120 (show zop 269 81 = some (.ifCond .eq 39, 3) by decide +kernel) rfl rfl (decide_eq_false hc48) ?_
    refine zq_aload_n 85 (show zop 269 84 = some (.aload_n 0, 1) by decide +kernel) rfl rfl ?_
    refine zq_iload 87 (show zop 269 85 = some (.iload 4, 2) by decide +kernel) rfl rfl ?_
    obtain ⟨g32, h⟩ := h
    obtain ⟨v30, s29, hD31, h⟩ := h
    refine zq_vi (v := some (.inl v30)) (σ' := s29) (nj := 2) (j := 201) (c := 3) (t := []) (as := [(.inr (.inr (some 0))), (.inl x4)]) 90 [(.inl v30)] (show zop 269 87 = some (.invokevirtual 161, 3) by decide +kernel) (by decide +kernel) rfl (by decide +kernel) rfl rfl rfl rfl rfl rfl (by decide +kernel) (by decide +kernel) (clS_0 rfl) hD31 rfl g32 ?_
    refine zq_aload_n 91 (show zop 269 90 = some (.aload_n 1, 1) by decide +kernel) rfl rfl ?_
    refine zq_iconst 92 (show zop 269 91 = some (.iconst 4, 1) by decide +kernel) rfl rfl ?_
    obtain ⟨g35, h⟩ := h
    obtain ⟨g33, h⟩ := h
    refine zq_iaload 93 12 (show zop 269 92 = some (.iaload, 1) by decide +kernel) rfl (by decide) g35 g33 ?_
    refine zq_iconst 94 (show zop 269 93 = some (.iconst 1, 1) by decide +kernel) rfl rfl ?_
    obtain ⟨g36, h⟩ := h
    refine zq_isub 95 (show zop 269 94 = some (.isub, 1) by decide +kernel) rfl g36 ?_
    by_cases hc49 : v30 = (((wS (wU (wU (wU (wU w 682 ((6 + (w.2.1 682 ((3 : Int)).toNat))).toNat (w.2.1 682 ((4 : Int)).toNat)) 682 ((3 : Int)).toNat (((wU w 682 ((6 + (w.2.1 682 ((3 : Int)).toNat))).toNat (w.2.1 682 ((4 : Int)).toNat)).2.1 682 ((3 : Int)).toNat) + 1)) 682 ((4 : Int)).toNat (((wU (wU w 682 ((6 + (w.2.1 682 ((3 : Int)).toNat))).toNat (w.2.1 682 ((4 : Int)).toNat)) 682 ((3 : Int)).toNat (((wU w 682 ((6 + (w.2.1 682 ((3 : Int)).toNat))).toNat (w.2.1 682 ((4 : Int)).toNat)).2.1 682 ((3 : Int)).toNat) + 1)).2.1 682 ((4 : Int)).toNat) + 1)) 682 ((5 : Int)).toNat (x2 + 1)) s29).2.1 682 ((4 : Int)).toNat) - 1)
    · rw [if_pos hc49] at h
      refine zq_icmpF 98 120 (show zop 269 95 = some (.if_icmp .ne 25, 3) by decide +kernel) rfl rfl (decide_eq_false (fun h9 => h9 hc49)) ?_
      refine zq_aload_n 99 (show zop 269 98 = some (.aload_n 0, 1) by decide +kernel) rfl rfl ?_
      obtain ⟨g40, h⟩ := h
      obtain ⟨v38, s37, hD39, h⟩ := h
      refine zq_vi (v := some (.inl v38)) (σ' := s37) (nj := 1) (j := 208) (c := 0) (t := []) (as := [(.inr (.inr (some 0)))]) 102 [(.inl v38)] (show zop 269 99 = some (.invokevirtual 211, 3) by decide +kernel) (by decide +kernel) rfl (by decide +kernel) rfl rfl rfl rfl rfl rfl (by decide +kernel) (by decide +kernel) (clS_0 rfl) hD39 rfl g40 ?_
      refine zq_aload_n 103 (show zop 269 102 = some (.aload_n 1, 1) by decide +kernel) rfl rfl ?_
      refine zq_iconst 104 (show zop 269 103 = some (.iconst 3, 1) by decide +kernel) rfl rfl ?_
      obtain ⟨g43, h⟩ := h
      obtain ⟨g41, h⟩ := h
      refine zq_iaload 105 12 (show zop 269 104 = some (.iaload, 1) by decide +kernel) rfl (by decide) g43 g41 ?_
      by_cases hc50 : v38 = ((wS (wS (wU (wU (wU (wU w 682 ((6 + (w.2.1 682 ((3 : Int)).toNat))).toNat (w.2.1 682 ((4 : Int)).toNat)) 682 ((3 : Int)).toNat (((wU w 682 ((6 + (w.2.1 682 ((3 : Int)).toNat))).toNat (w.2.1 682 ((4 : Int)).toNat)).2.1 682 ((3 : Int)).toNat) + 1)) 682 ((4 : Int)).toNat (((wU (wU w 682 ((6 + (w.2.1 682 ((3 : Int)).toNat))).toNat (w.2.1 682 ((4 : Int)).toNat)) 682 ((3 : Int)).toNat (((wU w 682 ((6 + (w.2.1 682 ((3 : Int)).toNat))).toNat (w.2.1 682 ((4 : Int)).toNat)).2.1 682 ((3 : Int)).toNat) + 1)).2.1 682 ((4 : Int)).toNat) + 1)) 682 ((5 : Int)).toNat (x2 + 1)) s29) s37).2.1 682 ((3 : Int)).toNat)
      · rw [if_pos hc50] at h
        refine zq_icmpF 108 120 (show zop 269 105 = some (.if_icmp .ne 15, 3) by decide +kernel) rfl rfl (decide_eq_false (fun h9 => h9 hc50)) ?_
        refine zq_aload_n 109 (show zop 269 108 = some (.aload_n 0, 1) by decide +kernel) rfl rfl ?_
        refine zq_iload_n 110 (show zop 269 109 = some (.iload_n 2, 1) by decide +kernel) rfl rfl ?_
        obtain ⟨g47, h⟩ := h
        obtain ⟨v45, w44, hD46, h⟩ := h
        refine zq_lx (v := some (.inl v45)) (w' := w44) (nj := 2) (j := 268) (c := 100) (t := []) (as := [(.inr (.inr (some 0))), (.inl x2)]) 113 [(.inl v45)] (show zop 269 110 = some (.invokestatic 226, 3) by decide +kernel) (by decide +kernel) rfl (by decide +kernel) (by decide +kernel) rfl rfl rfl rfl rfl hD46 rfl g47 ?_
        by_cases hc51 : v45 = 0
        · rw [if_pos hc51] at h
          refine zq_ifT 120 (show zop 269 113 = some (.ifCond .eq 7, 3) by decide +kernel) rfl (decide_eq_true hc51) ?_
          exact h
        · rw [if_neg hc51] at h
          refine zq_ifF 116 120 (show zop 269 113 = some (.ifCond .eq 7, 3) by decide +kernel) rfl rfl (decide_eq_false hc51) ?_
          refine zq_iconst 117 (show zop 269 116 = some (.iconst 1, 1) by decide +kernel) rfl rfl ?_
          refine zq_goto 121 (show zop 269 117 = some (.goto 4, 3) by decide +kernel) rfl ?_
          exact h
      · rw [if_neg hc50] at h
        refine zq_icmpT 120 (show zop 269 105 = some (.if_icmp .ne 15, 3) by decide +kernel) rfl (decide_eq_true hc50) ?_
        exact h
    · rw [if_neg hc49] at h
      refine zq_icmpT 120 (show zop 269 95 = some (.if_icmp .ne 25, 3) by decide +kernel) rfl (decide_eq_true hc49) ?_
      exact h
theorem bK269_120 {d0 : Option AV} {d1 : Option AV} {d2 : Option AV} {d3 : Option AV} {d4 : Option AV} {d5 : Option AV} {d6 : Option AV} {w : WS} {r : Nat} {o : Ro} (h : K269_121 d0 d1 d2 d3 d4 d5 d6 0 w r o) : K269_120 d0 d1 d2 d3 d4 d5 d6 w r o := by
  show Lg 269 120 [d0, d1, d2, d3, d4, d5, d6] [] w r o
  refine zq_iconst 121 (show zop 269 120 = some (.iconst 0, 1) by decide +kernel) rfl rfl ?_
  exact h
theorem bK269_121 {d0 : Option AV} {d1 : Option AV} {d2 : Option AV} {d3 : Option AV} {d4 : Option AV} {d5 : Option AV} {d6 : Option AV} {y0 : Int} {w : WS} {r : Nat} {o : Ro} (h : (y0 = 0 ∨ y0 = 1) ∧ o = (.inl (some (.inl y0)), w)) : K269_121 d0 d1 d2 d3 d4 d5 d6 y0 w r o := by
  show Lg 269 121 [d0, d1, d2, d3, d4, d5, d6] [(.inl y0)] w r o
  obtain ⟨g1, h⟩ := h
  exact (zq_zret (show zop 269 121 = some (.ireturn, 1) by decide +kernel) (by decide +kernel) g1 h)
/-- PatchBenchLaw.pushes (LPatchBench;[III)Z -/
theorem lb269 {x2 : Int} {x3 : Int} {w : WS} {o : Ro} (h : (w.1[0]? = some (0, 12, [])) ∧ (0 ≤ (0 : Int) ∧ (0 : Int) < 12) ∧ (w.1[0]? = some (0, 12, [])) ∧ (0 ≤ (5 : Int) ∧ (5 : Int) < 12) ∧ (-2147483648 ≤ ((w.2.1 682 ((5 : Int)).toNat) - 1) ∧ ((w.2.1 682 ((5 : Int)).toNat) - 1) ≤ 2147483647) ∧ (w.1[0]? = some (0, 12, [])) ∧ (0 ≤ (0 : Int) ∧ (0 : Int) < 12) ∧ (-2147483648 ≤ ((w.2.1 682 ((0 : Int)).toNat) + 1) ∧ ((w.2.1 682 ((0 : Int)).toNat) + 1) ≤ 2147483647) ∧ (w.1[0]? = some (0, 12, [])) ∧ (0 ≤ (0 : Int) ∧ (0 : Int) < 12) ∧ (100 ≤ 250) ∧ (∃ (v16 : Int) (w15 : WS), Lx 268 [(.inr (.inr (some 0))), (.inl ((w.2.1 682 ((5 : Int)).toNat) - 1))] (wU w 682 ((0 : Int)).toNat ((w.2.1 682 ((0 : Int)).toNat) + 1)) (.inl (some (.inl v16)), w15) ∧ (if v16 = 0 then K269_45 x2 (some (.inl x3)) (w.2.1 682 ((0 : Int)).toNat) (some (.inl ((w.2.1 682 ((5 : Int)).toNat) - 1))) none w15 (250 - 100) o else (4 ≤ (250 - 100)) ∧ (∃ (v20 : Int) (s19 : Sg), Dc 181 [(.inr (.inr (some 0))), (.inl ((w.2.1 682 ((5 : Int)).toNat) - 1)), (.inl x2), (.inl x3)] w15.2.2 (.inl (some (.inl v20))) s19 ∧ (if v20 = (w.2.1 682 ((0 : Int)).toNat) then K269_46 x2 (some (.inl x3)) (w.2.1 682 ((0 : Int)).toNat) (some (.inl ((w.2.1 682 ((5 : Int)).toNat) - 1))) none 1 (wS w15 s19) ((250 - 100) - 4) o else K269_45 x2 (some (.inl x3)) (w.2.1 682 ((0 : Int)).toNat) (some (.inl ((w.2.1 682 ((5 : Int)).toNat) - 1))) none (wS w15 s19) ((250 - 100) - 4) o))))) : Lx 269 [(.inr (.inr (some 0))), (.inr (.inr (some 682))), (.inl x2), (.inl x3)] w o := by
  refine Lx_of (l := 7) (r := 250) (by decide +kernel) (by decide +kernel) ?_
  show Lg 269 0 [(some (.inr (.inr (some 0)))), (some (.inr (.inr (some 682)))), (some (.inl x2)), (some (.inl x3)), none, none, none] [] w 250 o
  refine zq_aload_n 1 (show zop 269 0 = some (.aload_n 1, 1) by decide +kernel) rfl rfl ?_
  refine zq_iconst 2 (show zop 269 1 = some (.iconst 0, 1) by decide +kernel) rfl rfl ?_
  obtain ⟨g3, h⟩ := h
  obtain ⟨g1, h⟩ := h
  refine zq_iaload 3 12 (show zop 269 2 = some (.iaload, 1) by decide +kernel) rfl (by decide) g3 g1 ?_
  refine zq_istore 5 [(some (.inr (.inr (some 0)))), (some (.inr (.inr (some 682)))), (some (.inl x2)), (some (.inl x3)), (some (.inl (w.2.1 682 ((0 : Int)).toNat))), none, none] (show zop 269 3 = some (.istore 4, 2) by decide +kernel) rfl rfl rfl ?_
  refine zq_aload_n 6 (show zop 269 5 = some (.aload_n 1, 1) by decide +kernel) rfl rfl ?_
  refine zq_iconst 7 (show zop 269 6 = some (.iconst 5, 1) by decide +kernel) rfl rfl ?_
  obtain ⟨g6, h⟩ := h
  obtain ⟨g4, h⟩ := h
  refine zq_iaload 8 12 (show zop 269 7 = some (.iaload, 1) by decide +kernel) rfl (by decide) g6 g4 ?_
  refine zq_iconst 9 (show zop 269 8 = some (.iconst 1, 1) by decide +kernel) rfl rfl ?_
  obtain ⟨g7, h⟩ := h
  refine zq_isub 10 (show zop 269 9 = some (.isub, 1) by decide +kernel) rfl g7 ?_
  refine zq_istore 12 [(some (.inr (.inr (some 0)))), (some (.inr (.inr (some 682)))), (some (.inl x2)), (some (.inl x3)), (some (.inl (w.2.1 682 ((0 : Int)).toNat))), (some (.inl ((w.2.1 682 ((5 : Int)).toNat) - 1))), none] (show zop 269 10 = some (.istore 5, 2) by decide +kernel) rfl rfl rfl ?_
  refine zq_aload_n 13 (show zop 269 12 = some (.aload_n 1, 1) by decide +kernel) rfl rfl ?_
  refine zq_iconst 14 (show zop 269 13 = some (.iconst 0, 1) by decide +kernel) rfl rfl ?_
  refine zq_dup2 15 (show zop 269 14 = some (.dup2, 1) by decide +kernel) rfl rfl rfl ?_
  obtain ⟨g10, h⟩ := h
  obtain ⟨g8, h⟩ := h
  refine zq_iaload 16 12 (show zop 269 15 = some (.iaload, 1) by decide +kernel) rfl (by decide) g10 g8 ?_
  refine zq_iconst 17 (show zop 269 16 = some (.iconst 1, 1) by decide +kernel) rfl rfl ?_
  obtain ⟨g11, h⟩ := h
  refine zq_iadd 18 (show zop 269 17 = some (.iadd, 1) by decide +kernel) rfl g11 ?_
  obtain ⟨g14, h⟩ := h
  obtain ⟨g12, h⟩ := h
  refine zq_iastore 19 12 (show zop 269 18 = some (.iastore, 1) by decide +kernel) rfl (by decide) g14 g12 ?_
  refine zq_aload_n 20 (show zop 269 19 = some (.aload_n 0, 1) by decide +kernel) rfl rfl ?_
  refine zq_iload 22 (show zop 269 20 = some (.iload 5, 2) by decide +kernel) rfl rfl ?_
  obtain ⟨g18, h⟩ := h
  obtain ⟨v16, w15, hD17, h⟩ := h
  refine zq_lx (v := some (.inl v16)) (w' := w15) (nj := 2) (j := 268) (c := 100) (t := []) (as := [(.inr (.inr (some 0))), (.inl ((w.2.1 682 ((5 : Int)).toNat) - 1))]) 25 [(.inl v16)] (show zop 269 22 = some (.invokestatic 226, 3) by decide +kernel) (by decide +kernel) rfl (by decide +kernel) (by decide +kernel) rfl rfl rfl rfl rfl hD17 rfl g18 ?_
  by_cases hc23 : v16 = 0
  · rw [if_pos hc23] at h
    refine zq_ifT 45 (show zop 269 25 = some (.ifCond .eq 20, 3) by decide +kernel) rfl (decide_eq_true hc23) ?_
    exact h
  · rw [if_neg hc23] at h
    refine zq_ifF 28 45 (show zop 269 25 = some (.ifCond .eq 20, 3) by decide +kernel) rfl rfl (decide_eq_false hc23) ?_
    refine zq_aload_n 29 (show zop 269 28 = some (.aload_n 0, 1) by decide +kernel) rfl rfl ?_
    refine zq_iload 31 (show zop 269 29 = some (.iload 5, 2) by decide +kernel) rfl rfl ?_
    refine zq_iload_n 32 (show zop 269 31 = some (.iload_n 2, 1) by decide +kernel) rfl rfl ?_
    refine zq_iload_n 33 (show zop 269 32 = some (.iload_n 3, 1) by decide +kernel) rfl rfl ?_
    obtain ⟨g22, h⟩ := h
    obtain ⟨v20, s19, hD21, h⟩ := h
    refine zq_vi (v := some (.inl v20)) (σ' := s19) (nj := 4) (j := 181) (c := 4) (t := []) (as := [(.inr (.inr (some 0))), (.inl ((w.2.1 682 ((5 : Int)).toNat) - 1)), (.inl x2), (.inl x3)]) 36 [(.inl v20)] (show zop 269 33 = some (.invokevirtual 110, 3) by decide +kernel) (by decide +kernel) rfl (by decide +kernel) rfl rfl rfl rfl rfl rfl (by decide +kernel) (by decide +kernel) (clS_0 rfl) hD21 rfl g22 ?_
    refine zq_iload 38 (show zop 269 36 = some (.iload 4, 2) by decide +kernel) rfl rfl ?_
    by_cases hc24 : v20 = (w.2.1 682 ((0 : Int)).toNat)
    · rw [if_pos hc24] at h
      refine zq_icmpF 41 45 (show zop 269 38 = some (.if_icmp .ne 7, 3) by decide +kernel) rfl rfl (decide_eq_false (fun h9 => h9 hc24)) ?_
      refine zq_iconst 42 (show zop 269 41 = some (.iconst 1, 1) by decide +kernel) rfl rfl ?_
      refine zq_goto 46 (show zop 269 42 = some (.goto 4, 3) by decide +kernel) rfl ?_
      exact h
    · rw [if_neg hc24] at h
      refine zq_icmpT 45 (show zop 269 38 = some (.if_icmp .ne 7, 3) by decide +kernel) rfl (decide_eq_true hc24) ?_
      exact h
def K270_8 (x2 : Int) (x3 : Nat) (x4 : Int) (d5 : Option AV) (d6 : Option AV) (d7 : Option AV) (w : WS) (r : Nat) (o : Ro) : Prop := Lg 270 8 [(some (.inr (.inr (some 0)))), (some (.inr (.inr (some 682)))), (some (.inl x2)), (some (.inr (.inr (some x3)))), (some (.inl x4)), d5, d6, d7] [] w r o
def K270_59 (x2 : Int) (x3 : Nat) (x4 : Int) (x5 : Int) (d6 : Option AV) (d7 : Option AV) (w : WS) (r : Nat) (o : Ro) : Prop := Lg 270 59 [(some (.inr (.inr (some 0)))), (some (.inr (.inr (some 682)))), (some (.inl x2)), (some (.inr (.inr (some x3)))), (some (.inl x4)), (some (.inl x5)), d6, d7] [] w r o
def K270_64 (x2 : Int) (x3 : Nat) (x4 : Int) (x5 : Int) (d6 : Option AV) (d7 : Option AV) (y0 : Int) (w : WS) (r : Nat) (o : Ro) : Prop := Lg 270 64 [(some (.inr (.inr (some 0)))), (some (.inr (.inr (some 682)))), (some (.inl x2)), (some (.inr (.inr (some x3)))), (some (.inl x4)), (some (.inl x5)), d6, d7] [(.inl y0)] w r o
def K270_93 (d1 : Option AV) (x2 : Int) (x3 : Nat) (x4 : Int) (x5 : Int) (x6 : Int) (d7 : Option AV) (w : WS) (r : Nat) (o : Ro) : Prop := Lg 270 93 [(some (.inr (.inr (some 0)))), d1, (some (.inl x2)), (some (.inr (.inr (some x3)))), (some (.inl x4)), (some (.inl x5)), (some (.inl x6)), d7] [] w r o
def K270_96 (d1 : Option AV) (x2 : Int) (x3 : Nat) (x4 : Int) (x5 : Int) (x6 : Int) (x7 : Int) (w : WS) (r : Nat) (o : Ro) : Prop := Lg 270 96 [(some (.inr (.inr (some 0)))), d1, (some (.inl x2)), (some (.inr (.inr (some x3)))), (some (.inl x4)), (some (.inl x5)), (some (.inl x6)), (some (.inl x7))] [] w r o
def K270_125 (d1 : Option AV) (x2 : Int) (x3 : Nat) (x4 : Int) (x5 : Int) (d6 : Option AV) (x7 : Int) (w : WS) (r : Nat) (o : Ro) : Prop := Lg 270 125 [(some (.inr (.inr (some 0)))), d1, (some (.inl x2)), (some (.inr (.inr (some x3)))), (some (.inl x4)), (some (.inl x5)), d6, (some (.inl x7))] [] w r o
def K270_126 (d1 : Option AV) (x2 : Int) (x3 : Nat) (x4 : Int) (x5 : Int) (d6 : Option AV) (x7 : Int) (y0 : Int) (w : WS) (r : Nat) (o : Ro) : Prop := Lg 270 126 [(some (.inr (.inr (some 0)))), d1, (some (.inl x2)), (some (.inr (.inr (some x3)))), (some (.inl x4)), (some (.inl x5)), d6, (some (.inl x7))] [(.inl y0)] w r o
def K270_174 (d0 : Option AV) (d1 : Option AV) (d2 : Option AV) (d3 : Option AV) (d4 : Option AV) (d5 : Option AV) (d6 : Option AV) (d7 : Option AV) (w : WS) (r : Nat) (o : Ro) : Prop := Lg 270 174 [d0, d1, d2, d3, d4, d5, d6, d7] [] w r o
def K270_170 (d0 : Option AV) (d1 : Option AV) (d2 : Option AV) (d3 : Option AV) (d4 : Option AV) (d5 : Option AV) (d6 : Option AV) (d7 : Option AV) (w : WS) (r : Nat) (o : Ro) : Prop := Lg 270 170 [d0, d1, d2, d3, d4, d5, d6, d7] [] w r o
def K270_175 (d0 : Option AV) (d1 : Option AV) (d2 : Option AV) (d3 : Option AV) (d4 : Option AV) (d5 : Option AV) (d6 : Option AV) (d7 : Option AV) (y0 : Int) (w : WS) (r : Nat) (o : Ro) : Prop := Lg 270 175 [d0, d1, d2, d3, d4, d5, d6, d7] [(.inl y0)] w r o
theorem bK270_8 {x2 : Int} {x3 : Nat} {x4 : Int} {d5 : Option AV} {d6 : Option AV} {d7 : Option AV} {w : WS} {r : Nat} {o : Ro} (h : (1 ≤ r) ∧ (∃ (v2 : Int) (s1 : Sg), Dc 210 [(.inr (.inr (some 0))), (.inl x4)] w.2.2 (.inl (some (.inl v2))) s1 ∧ (if v2 = (-1) then (2 ≤ (r - 1)) ∧ (∃ (v6 : Int) (w5 : WS), Lx 260 [(.inr (.inr (some 0))), (.inl x2)] (wS w s1) (.inl (some (.inl v6)), w5) ∧ (if v6 = (-2) then K270_59 x2 x3 x4 v6 d6 d7 w5 ((r - 1) - 2) o else (-2147483648 ≤ (7 + x2) ∧ (7 + x2) ≤ 2147483647) ∧ (w5.1[0]? = some (0, 12, [])) ∧ (0 ≤ (7 + x2) ∧ (7 + x2) < 12) ∧ (if v6 = (w5.2.1 682 ((7 + x2)).toNat) then K270_59 x2 x3 x4 v6 d6 d7 w5 ((r - 1) - 2) o else K270_64 x2 x3 x4 v6 d6 d7 0 w5 ((r - 1) - 2) o))) else (1 ≤ (r - 1)) ∧ (∃ (v14 : Int) (s13 : Sg), Dc 210 [(.inr (.inr (some 0))), (.inl x4)] (wS w s1).2.2 (.inl (some (.inl v14))) s13 ∧ (682 ≤ x3) ∧ ((wS (wS w s1) s13).1[x3 - 682]? = some (0, 17, [])) ∧ (0 ≤ x4 ∧ x4 < 17) ∧ (-2147483648 ≤ (x4 + 1) ∧ (x4 + 1) ≤ 2147483647) ∧ K270_8 x2 x3 (x4 + 1) d5 d6 d7 (wU (wS (wS w s1) s13) x3 (x4).toNat v14) ((r - 1) - 1) o)))) : K270_8 x2 x3 x4 d5 d6 d7 w r o := by
  show Lg 270 8 [(some (.inr (.inr (some 0)))), (some (.inr (.inr (some 682)))), (some (.inl x2)), (some (.inr (.inr (some x3)))), (some (.inl x4)), d5, d6, d7] [] w r o
  refine zq_aload_n 9 (show zop 270 8 = some (.aload_n 0, 1) by decide +kernel) rfl rfl ?_
  refine zq_iload 11 (show zop 270 9 = some (.iload 4, 2) by decide +kernel) rfl rfl ?_
  obtain ⟨g4, h⟩ := h
  obtain ⟨v2, s1, hD3, h⟩ := h
  refine zq_vi (v := some (.inl v2)) (σ' := s1) (nj := 2) (j := 210) (c := 1) (t := []) (as := [(.inr (.inr (some 0))), (.inl x4)]) 14 [(.inl v2)] (show zop 270 11 = some (.invokevirtual 232, 3) by decide +kernel) (by decide +kernel) rfl (by decide +kernel) rfl rfl rfl rfl rfl rfl (by decide +kernel) (by decide +kernel) (clS_0 rfl) hD3 rfl g4 ?_
  refine zq_iconst 15 (show zop 270 14 = some (.iconst (-1), 1) by decide +kernel) rfl rfl ?_
  by_cases hc21 : v2 = (-1)
  · rw [if_pos hc21] at h
    refine zq_icmpT 34 (show zop 270 15 = some (.if_icmp .eq 19, 3) by decide +kernel) rfl (decide_eq_true hc21) ?_
    refine zq_aload_n 35 (show zop 270 34 = some (.aload_n 0, 1) by decide +kernel) rfl rfl ?_
    refine zq_iload_n 36 (show zop 270 35 = some (.iload_n 2, 1) by decide +kernel) rfl rfl ?_
    obtain ⟨g8, h⟩ := h
    obtain ⟨v6, w5, hD7, h⟩ := h
    refine zq_lx (v := some (.inl v6)) (w' := w5) (nj := 2) (j := 260) (c := 2) (t := []) (as := [(.inr (.inr (some 0))), (.inl x2)]) 39 [(.inl v6)] (show zop 270 36 = some (.invokestatic 235, 3) by decide +kernel) (by decide +kernel) rfl (by decide +kernel) (by decide +kernel) rfl rfl rfl rfl rfl hD7 rfl g8 ?_
    refine zq_istore 41 [(some (.inr (.inr (some 0)))), (some (.inr (.inr (some 682)))), (some (.inl x2)), (some (.inr (.inr (some x3)))), (some (.inl x4)), (some (.inl v6)), d6, d7] (show zop 270 39 = some (.istore 5, 2) by decide +kernel) rfl rfl rfl ?_
    refine zq_iload 43 (show zop 270 41 = some (.iload 5, 2) by decide +kernel) rfl rfl ?_
    refine zq_bipush 45 (show zop 270 43 = some (.bipush (-2), 2) by decide +kernel) rfl (by decide) ?_
    by_cases hc22 : v6 = (-2)
    · rw [if_pos hc22] at h
      refine zq_icmpT 59 (show zop 270 45 = some (.if_icmp .eq 14, 3) by decide +kernel) rfl (decide_eq_true hc22) ?_
      exact h
    · rw [if_neg hc22] at h
      refine zq_icmpF 48 59 (show zop 270 45 = some (.if_icmp .eq 14, 3) by decide +kernel) rfl rfl (decide_eq_false hc22) ?_
      refine zq_iload 50 (show zop 270 48 = some (.iload 5, 2) by decide +kernel) rfl rfl ?_
      refine zq_aload_n 51 (show zop 270 50 = some (.aload_n 1, 1) by decide +kernel) rfl rfl ?_
      refine zq_bipush 53 (show zop 270 51 = some (.bipush 7, 2) by decide +kernel) rfl (by decide) ?_
      refine zq_iload_n 54 (show zop 270 53 = some (.iload_n 2, 1) by decide +kernel) rfl rfl ?_
      obtain ⟨g9, h⟩ := h
      refine zq_iadd 55 (show zop 270 54 = some (.iadd, 1) by decide +kernel) rfl g9 ?_
      obtain ⟨g12, h⟩ := h
      obtain ⟨g10, h⟩ := h
      refine zq_iaload 56 12 (show zop 270 55 = some (.iaload, 1) by decide +kernel) rfl (by decide) g12 g10 ?_
      by_cases hc23 : v6 = (w5.2.1 682 ((7 + x2)).toNat)
      · rw [if_pos hc23] at h
        refine zq_icmpF 59 63 (show zop 270 56 = some (.if_icmp .ne 7, 3) by decide +kernel) rfl rfl (decide_eq_false (fun h9 => h9 hc23)) ?_
        exact h
      · rw [if_neg hc23] at h
        refine zq_icmpT 63 (show zop 270 56 = some (.if_icmp .ne 7, 3) by decide +kernel) rfl (decide_eq_true hc23) ?_
        refine zq_iconst 64 (show zop 270 63 = some (.iconst 0, 1) by decide +kernel) rfl rfl ?_
        exact h
  · rw [if_neg hc21] at h
    refine zq_icmpF 18 34 (show zop 270 15 = some (.if_icmp .eq 19, 3) by decide +kernel) rfl rfl (decide_eq_false hc21) ?_
    refine zq_aload_n 19 (show zop 270 18 = some (.aload_n 3, 1) by decide +kernel) rfl rfl ?_
    refine zq_iload 21 (show zop 270 19 = some (.iload 4, 2) by decide +kernel) rfl rfl ?_
    refine zq_aload_n 22 (show zop 270 21 = some (.aload_n 0, 1) by decide +kernel) rfl rfl ?_
    refine zq_iload 24 (show zop 270 22 = some (.iload 4, 2) by decide +kernel) rfl rfl ?_
    obtain ⟨g16, h⟩ := h
    obtain ⟨v14, s13, hD15, h⟩ := h
    refine zq_vi (v := some (.inl v14)) (σ' := s13) (nj := 2) (j := 210) (c := 1) (t := [(.inl x4), (.inr (.inr (some x3)))]) (as := [(.inr (.inr (some 0))), (.inl x4)]) 27 [(.inl v14), (.inl x4), (.inr (.inr (some x3)))] (show zop 270 24 = some (.invokevirtual 232, 3) by decide +kernel) (by decide +kernel) rfl (by decide +kernel) rfl rfl rfl rfl rfl rfl (by decide +kernel) (by decide +kernel) (clS_0 rfl) hD15 rfl g16 ?_
    obtain ⟨g18, h⟩ := h
    obtain ⟨g19, h⟩ := h
    obtain ⟨g17, h⟩ := h
    refine zq_iastore 28 17 (show zop 270 27 = some (.iastore, 1) by decide +kernel) rfl g18 g19 g17 ?_
    obtain ⟨g20, h⟩ := h
    refine zq_iinc 31 [(some (.inr (.inr (some 0)))), (some (.inr (.inr (some 682)))), (some (.inl x2)), (some (.inr (.inr (some x3)))), (some (.inl (x4 + 1))), d5, d6, d7] (show zop 270 28 = some (.iinc 4 1, 3) by decide +kernel) rfl rfl g20 rfl ?_
    refine zq_goto 8 (show zop 270 31 = some (.goto (-23), 3) by decide +kernel) rfl ?_
    exact h
theorem bK270_59 {x2 : Int} {x3 : Nat} {x4 : Int} {x5 : Int} {d6 : Option AV} {d7 : Option AV} {w : WS} {r : Nat} {o : Ro} (h : K270_64 x2 x3 x4 x5 d6 d7 1 w r o) : K270_59 x2 x3 x4 x5 d6 d7 w r o := by
  show Lg 270 59 [(some (.inr (.inr (some 0)))), (some (.inr (.inr (some 682)))), (some (.inl x2)), (some (.inr (.inr (some x3)))), (some (.inl x4)), (some (.inl x5)), d6, d7] [] w r o
  refine zq_iconst 60 (show zop 270 59 = some (.iconst 1, 1) by decide +kernel) rfl rfl ?_
  refine zq_goto 64 (show zop 270 60 = some (.goto 4, 3) by decide +kernel) rfl ?_
  exact h
theorem bK270_64 {x2 : Int} {x3 : Nat} {x4 : Int} {x5 : Int} {d6 : Option AV} {d7 : Option AV} {y0 : Int} {w : WS} {r : Nat} {o : Ro} (h : (if x5 = (-2) then K270_93 (some (.inr (.inr (some 682)))) x2 x3 x4 x5 y0 d7 w r o else (-2147483648 ≤ (7 + x2) ∧ (7 + x2) ≤ 2147483647) ∧ (-2147483648 ≤ (6 + x2) ∧ (6 + x2) ≤ 2147483647) ∧ (w.1[0]? = some (0, 12, [])) ∧ (0 ≤ (6 + x2) ∧ (6 + x2) < 12) ∧ (w.1[0]? = some (0, 12, [])) ∧ (0 ≤ (7 + x2) ∧ (7 + x2) < 12) ∧ (-2147483648 ≤ (6 + x2) ∧ (6 + x2) ≤ 2147483647) ∧ ((wU w 682 ((7 + x2)).toNat (w.2.1 682 ((6 + x2)).toNat)).1[0]? = some (0, 12, [])) ∧ (0 ≤ (6 + x2) ∧ (6 + x2) < 12) ∧ K270_93 (some (.inr (.inr (some 682)))) x2 x3 x4 x5 y0 d7 (wU (wU w 682 ((7 + x2)).toNat (w.2.1 682 ((6 + x2)).toNat)) 682 ((6 + x2)).toNat x5) r o)) : K270_64 x2 x3 x4 x5 d6 d7 y0 w r o := by
  show Lg 270 64 [(some (.inr (.inr (some 0)))), (some (.inr (.inr (some 682)))), (some (.inl x2)), (some (.inr (.inr (some x3)))), (some (.inl x4)), (some (.inl x5)), d6, d7] [(.inl y0)] w r o
  refine zq_istore 66 [(some (.inr (.inr (some 0)))), (some (.inr (.inr (some 682)))), (some (.inl x2)), (some (.inr (.inr (some x3)))), (some (.inl x4)), (some (.inl x5)), (some (.inl y0)), d7] (show zop 270 64 = some (.istore 6, 2) by decide +kernel) rfl rfl rfl ?_
  refine zq_iload 68 (show zop 270 66 = some (.iload 5, 2) by decide +kernel) rfl rfl ?_
  refine zq_bipush 70 (show zop 270 68 = some (.bipush (-2), 2) by decide +kernel) rfl (by decide) ?_
  by_cases hc13 : x5 = (-2)
  · rw [if_pos hc13] at h
    refine zq_icmpT 93 (show zop 270 70 = some (.if_icmp .eq 23, 3) by decide +kernel) rfl (decide_eq_true hc13) ?_
    exact h
  · rw [if_neg hc13] at h
    refine zq_icmpF 73 93 (show zop 270 70 = some (.if_icmp .eq 23, 3) by decide +kernel) rfl rfl (decide_eq_false hc13) ?_
    refine zq_aload_n 74 (show zop 270 73 = some (.aload_n 1, 1) by decide +kernel) rfl rfl ?_
    refine zq_bipush 76 (show zop 270 74 = some (.bipush 7, 2) by decide +kernel) rfl (by decide) ?_
    refine zq_iload_n 77 (show zop 270 76 = some (.iload_n 2, 1) by decide +kernel) rfl rfl ?_
    obtain ⟨g1, h⟩ := h
    refine zq_iadd 78 (show zop 270 77 = some (.iadd, 1) by decide +kernel) rfl g1 ?_
    refine zq_aload_n 79 (show zop 270 78 = some (.aload_n 1, 1) by decide +kernel) rfl rfl ?_
    refine zq_bipush 81 (show zop 270 79 = some (.bipush 6, 2) by decide +kernel) rfl (by decide) ?_
    refine zq_iload_n 82 (show zop 270 81 = some (.iload_n 2, 1) by decide +kernel) rfl rfl ?_
    obtain ⟨g2, h⟩ := h
    refine zq_iadd 83 (show zop 270 82 = some (.iadd, 1) by decide +kernel) rfl g2 ?_
    obtain ⟨g5, h⟩ := h
    obtain ⟨g3, h⟩ := h
    refine zq_iaload 84 12 (show zop 270 83 = some (.iaload, 1) by decide +kernel) rfl (by decide) g5 g3 ?_
    obtain ⟨g8, h⟩ := h
    obtain ⟨g6, h⟩ := h
    refine zq_iastore 85 12 (show zop 270 84 = some (.iastore, 1) by decide +kernel) rfl (by decide) g8 g6 ?_
    refine zq_aload_n 86 (show zop 270 85 = some (.aload_n 1, 1) by decide +kernel) rfl rfl ?_
    refine zq_bipush 88 (show zop 270 86 = some (.bipush 6, 2) by decide +kernel) rfl (by decide) ?_
    refine zq_iload_n 89 (show zop 270 88 = some (.iload_n 2, 1) by decide +kernel) rfl rfl ?_
    obtain ⟨g9, h⟩ := h
    refine zq_iadd 90 (show zop 270 89 = some (.iadd, 1) by decide +kernel) rfl g9 ?_
    refine zq_iload 92 (show zop 270 90 = some (.iload 5, 2) by decide +kernel) rfl rfl ?_
    obtain ⟨g12, h⟩ := h
    obtain ⟨g10, h⟩ := h
    refine zq_iastore 93 12 (show zop 270 92 = some (.iastore, 1) by decide +kernel) rfl (by decide) g12 g10 ?_
    exact h
theorem bK270_93 {d1 : Option AV} {x2 : Int} {x3 : Nat} {x4 : Int} {x5 : Int} {x6 : Int} {d7 : Option AV} {w : WS} {r : Nat} {o : Ro} (h : K270_96 d1 x2 x3 x4 x5 x6 0 w r o) : K270_93 d1 x2 x3 x4 x5 x6 d7 w r o := by
  show Lg 270 93 [(some (.inr (.inr (some 0)))), d1, (some (.inl x2)), (some (.inr (.inr (some x3)))), (some (.inl x4)), (some (.inl x5)), (some (.inl x6)), d7] [] w r o
  refine zq_iconst 94 (show zop 270 93 = some (.iconst 0, 1) by decide +kernel) rfl rfl ?_
  refine zq_istore 96 [(some (.inr (.inr (some 0)))), d1, (some (.inl x2)), (some (.inr (.inr (some x3)))), (some (.inl x4)), (some (.inl x5)), (some (.inl x6)), (some (.inl 0))] (show zop 270 94 = some (.istore 7, 2) by decide +kernel) rfl rfl rfl ?_
  exact h
theorem bK270_96 {d1 : Option AV} {x2 : Int} {x3 : Nat} {x4 : Int} {x5 : Int} {x6 : Int} {x7 : Int} {w : WS} {r : Nat} {o : Ro} (h : (if x7 < x4 then (if x6 = 0 then K270_125 d1 x2 x3 x4 x5 (some (.inl x6)) x7 w r o else (1 ≤ r) ∧ (∃ (v2 : Int) (s1 : Sg), Dc 210 [(.inr (.inr (some 0))), (.inl x7)] w.2.2 (.inl (some (.inl v2))) s1 ∧ (682 ≤ x3 ∧ ¬ x3 = SCR) ∧ ((wS w s1).1[x3 - 682]? = some (0, 17, [])) ∧ (0 ≤ x7 ∧ x7 < 17) ∧ (if v2 = ((wS w s1).2.1 x3 (x7).toNat) then K270_126 d1 x2 x3 x4 x5 (some (.inl x6)) x7 1 (wS w s1) (r - 1) o else K270_125 d1 x2 x3 x4 x5 (some (.inl x6)) x7 (wS w s1) (r - 1) o))) else (if x6 = 0 then K270_174 (some (.inr (.inr (some 0)))) d1 (some (.inl x2)) (some (.inr (.inr (some x3)))) (some (.inl x4)) (some (.inl x5)) (some (.inl x6)) (some (.inl x7)) w r o else (1 ≤ r) ∧ (∃ (v10 : Int) (s9 : Sg), Dc 210 [(.inr (.inr (some 0))), (.inl x4)] w.2.2 (.inl (some (.inl v10))) s9 ∧ (if v10 = (-1) then (if x5 = (-2) then K270_170 (some (.inr (.inr (some 0)))) d1 (some (.inl x2)) (some (.inr (.inr (some x3)))) (some (.inl x4)) (some (.inl x5)) (some (.inl x6)) (some (.inl x7)) (wS w s9) (r - 1) o else (-2147483648 ≤ (x2 + 1) ∧ (x2 + 1) ≤ 2147483647) ∧ (1 ≤ (r - 1)) ∧ (∃ (v15 : Int) (s14 : Sg), Dc 211 [(.inr (.inr (some 0))), (.inl (x2 + 1))] (wS w s9).2.2 (.inl (some (.inl v15))) s14 ∧ (if (iAnd (iShr v15 x2) 1) = 0 then K270_170 (some (.inr (.inr (some 0)))) d1 (some (.inl x2)) (some (.inr (.inr (some x3)))) (some (.inl x4)) (some (.inl x5)) (some (.inl x6)) (some (.inl x7)) (wS (wS w s9) s14) ((r - 1) - 1) o else K270_174 (some (.inr (.inr (some 0)))) d1 (some (.inl x2)) (some (.inr (.inr (some x3)))) (some (.inl x4)) (some (.inl x5)) (some (.inl x6)) (some (.inl x7)) (wS (wS w s9) s14) ((r - 1) - 1) o))) else K270_174 (some (.inr (.inr (some 0)))) d1 (some (.inl x2)) (some (.inr (.inr (some x3)))) (some (.inl x4)) (some (.inl x5)) (some (.inl x6)) (some (.inl x7)) (wS w s9) (r - 1) o))))) : K270_96 d1 x2 x3 x4 x5 x6 x7 w r o := by
  show Lg 270 96 [(some (.inr (.inr (some 0)))), d1, (some (.inl x2)), (some (.inr (.inr (some x3)))), (some (.inl x4)), (some (.inl x5)), (some (.inl x6)), (some (.inl x7))] [] w r o
  refine zq_iload 98 (show zop 270 96 = some (.iload 7, 2) by decide +kernel) rfl rfl ?_
  refine zq_iload 100 (show zop 270 98 = some (.iload 4, 2) by decide +kernel) rfl rfl ?_
  by_cases hc18 : x7 < x4
  · rw [if_pos hc18] at h
    refine zq_icmpF 103 134 (show zop 270 100 = some (.if_icmp .ge 34, 3) by decide +kernel) rfl rfl (decide_eq_false (Int.not_le.mpr hc18)) ?_
    refine zq_iload 105 (show zop 270 103 = some (.iload 6, 2) by decide +kernel) rfl rfl ?_
    by_cases hc19 : x6 = 0
    · rw [if_pos hc19] at h
      refine zq_ifT 125 (show zop 270 105 = some (.ifCond .eq 20, 3) by decide +kernel) rfl (decide_eq_true hc19) ?_
      exact h
    · rw [if_neg hc19] at h
      refine zq_ifF 108 125 (show zop 270 105 = some (.ifCond .eq 20, 3) by decide +kernel) rfl rfl (decide_eq_false hc19) ?_
      refine zq_aload_n 109 (show zop 270 108 = some (.aload_n 0, 1) by decide +kernel) rfl rfl ?_
      refine zq_iload 111 (show zop 270 109 = some (.iload 7, 2) by decide +kernel) rfl rfl ?_
      obtain ⟨g4, h⟩ := h
      obtain ⟨v2, s1, hD3, h⟩ := h
      refine zq_vi (v := some (.inl v2)) (σ' := s1) (nj := 2) (j := 210) (c := 1) (t := []) (as := [(.inr (.inr (some 0))), (.inl x7)]) 114 [(.inl v2)] (show zop 270 111 = some (.invokevirtual 232, 3) by decide +kernel) (by decide +kernel) rfl (by decide +kernel) rfl rfl rfl rfl rfl rfl (by decide +kernel) (by decide +kernel) (clS_0 rfl) hD3 rfl g4 ?_
      refine zq_aload_n 115 (show zop 270 114 = some (.aload_n 3, 1) by decide +kernel) rfl rfl ?_
      refine zq_iload 117 (show zop 270 115 = some (.iload 7, 2) by decide +kernel) rfl rfl ?_
      obtain ⟨g6, h⟩ := h
      obtain ⟨g7, h⟩ := h
      obtain ⟨g5, h⟩ := h
      refine zq_iaload 118 17 (show zop 270 117 = some (.iaload, 1) by decide +kernel) rfl g6 g7 g5 ?_
      by_cases hc20 : v2 = ((wS w s1).2.1 x3 (x7).toNat)
      · rw [if_pos hc20] at h
        refine zq_icmpF 121 125 (show zop 270 118 = some (.if_icmp .ne 7, 3) by decide +kernel) rfl rfl (decide_eq_false (fun h9 => h9 hc20)) ?_
        refine zq_iconst 122 (show zop 270 121 = some (.iconst 1, 1) by decide +kernel) rfl rfl ?_
        refine zq_goto 126 (show zop 270 122 = some (.goto 4, 3) by decide +kernel) rfl ?_
        exact h
      · rw [if_neg hc20] at h
        refine zq_icmpT 125 (show zop 270 118 = some (.if_icmp .ne 7, 3) by decide +kernel) rfl (decide_eq_true hc20) ?_
        exact h
  · rw [if_neg hc18] at h
    refine zq_icmpT 134 (show zop 270 100 = some (.if_icmp .ge 34, 3) by decide +kernel) rfl (decide_eq_true (Int.not_lt.mp hc18)) ?_
    refine zq_iload 136 (show zop 270 134 = some (.iload 6, 2) by decide +kernel) rfl rfl ?_
    by_cases hc21 : x6 = 0
    · rw [if_pos hc21] at h
      refine zq_ifT 174 (show zop 270 136 = some (.ifCond .eq 38, 3) by decide +kernel) rfl (decide_eq_true hc21) ?_
      exact h
    · rw [if_neg hc21] at h
      refine zq_ifF 139 174 (show zop 270 136 = some (.ifCond .eq 38, 3) by decide +kernel) rfl rfl (decide_eq_false hc21) ?_
      refine zq_aload_n 140 (show zop 270 139 = some (.aload_n 0, 1) by decide +kernel) rfl rfl ?_
      refine zq_iload 142 (show zop 270 140 = some (.iload 4, 2) by decide +kernel) rfl rfl ?_
      obtain ⟨g12, h⟩ := h
      obtain ⟨v10, s9, hD11, h⟩ := h
      refine zq_vi (v := some (.inl v10)) (σ' := s9) (nj := 2) (j := 210) (c := 1) (t := []) (as := [(.inr (.inr (some 0))), (.inl x4)]) 145 [(.inl v10)] (show zop 270 142 = some (.invokevirtual 232, 3) by decide +kernel) (by decide +kernel) rfl (by decide +kernel) rfl rfl rfl rfl rfl rfl (by decide +kernel) (by decide +kernel) (clS_0 rfl) hD11 rfl g12 ?_
      refine zq_iconst 146 (show zop 270 145 = some (.iconst (-1), 1) by decide +kernel) rfl rfl ?_
      by_cases hc22 : v10 = (-1)
      · rw [if_pos hc22] at h
        refine zq_icmpF 149 174 (show zop 270 146 = some (.if_icmp .ne 28, 3) by decide +kernel) rfl rfl (decide_eq_false (fun h9 => h9 hc22)) ?_
        refine zq_iload 151 (show zop 270 149 = some (.iload 5, 2) by decide +kernel) rfl rfl ?_
        refine zq_bipush 153 (show zop 270 151 = some (.bipush (-2), 2) by decide +kernel) rfl (by decide) ?_
        by_cases hc23 : x5 = (-2)
        · rw [if_pos hc23] at h
          refine zq_icmpT 170 (show zop 270 153 = some (.if_icmp .eq 17, 3) by decide +kernel) rfl (decide_eq_true hc23) ?_
          exact h
        · rw [if_neg hc23] at h
          refine zq_icmpF 156 170 (show zop 270 153 = some (.if_icmp .eq 17, 3) by decide +kernel) rfl rfl (decide_eq_false hc23) ?_
          refine zq_aload_n 157 (show zop 270 156 = some (.aload_n 0, 1) by decide +kernel) rfl rfl ?_
          refine zq_iload_n 158 (show zop 270 157 = some (.iload_n 2, 1) by decide +kernel) rfl rfl ?_
          refine zq_iconst 159 (show zop 270 158 = some (.iconst 1, 1) by decide +kernel) rfl rfl ?_
          obtain ⟨g13, h⟩ := h
          refine zq_iadd 160 (show zop 270 159 = some (.iadd, 1) by decide +kernel) rfl g13 ?_
          obtain ⟨g17, h⟩ := h
          obtain ⟨v15, s14, hD16, h⟩ := h
          refine zq_vi (v := some (.inl v15)) (σ' := s14) (nj := 2) (j := 211) (c := 1) (t := []) (as := [(.inr (.inr (some 0))), (.inl (x2 + 1))]) 163 [(.inl v15)] (show zop 270 160 = some (.invokevirtual 239, 3) by decide +kernel) (by decide +kernel) rfl (by decide +kernel) rfl rfl rfl rfl rfl rfl (by decide +kernel) (by decide +kernel) (clS_0 rfl) hD16 rfl g17 ?_
          refine zq_iload_n 164 (show zop 270 163 = some (.iload_n 2, 1) by decide +kernel) rfl rfl ?_
          refine zq_ishr 165 (show zop 270 164 = some (.ishr, 1) by decide +kernel) rfl ?_
          refine zq_iconst 166 (show zop 270 165 = some (.iconst 1, 1) by decide +kernel) rfl rfl ?_
          refine zq_iand 167 (show zop 270 166 = some (.iand, 1) by decide +kernel) rfl ?_
          by_cases hc24 : (iAnd (iShr v15 x2) 1) = 0
          · rw [if_pos hc24] at h
            refine zq_ifF 170 174 (show zop 270 167 = some (.ifCond .ne 7, 3) by decide +kernel) rfl rfl (decide_eq_false (fun h9 => h9 hc24)) ?_
            exact h
          · rw [if_neg hc24] at h
            refine zq_ifT 174 (show zop 270 167 = some (.ifCond .ne 7, 3) by decide +kernel) rfl (decide_eq_true hc24) ?_
            exact h
      · rw [if_neg hc22] at h
        refine zq_icmpT 174 (show zop 270 146 = some (.if_icmp .ne 28, 3) by decide +kernel) rfl (decide_eq_true hc22) ?_
        exact h
theorem bK270_125 {d1 : Option AV} {x2 : Int} {x3 : Nat} {x4 : Int} {x5 : Int} {d6 : Option AV} {x7 : Int} {w : WS} {r : Nat} {o : Ro} (h : K270_126 d1 x2 x3 x4 x5 d6 x7 0 w r o) : K270_125 d1 x2 x3 x4 x5 d6 x7 w r o := by
  show Lg 270 125 [(some (.inr (.inr (some 0)))), d1, (some (.inl x2)), (some (.inr (.inr (some x3)))), (some (.inl x4)), (some (.inl x5)), d6, (some (.inl x7))] [] w r o
  refine zq_iconst 126 (show zop 270 125 = some (.iconst 0, 1) by decide +kernel) rfl rfl ?_
  exact h
theorem bK270_126 {d1 : Option AV} {x2 : Int} {x3 : Nat} {x4 : Int} {x5 : Int} {d6 : Option AV} {x7 : Int} {y0 : Int} {w : WS} {r : Nat} {o : Ro} (h : (-2147483648 ≤ (x7 + 1) ∧ (x7 + 1) ≤ 2147483647) ∧ K270_96 d1 x2 x3 x4 x5 y0 (x7 + 1) w r o) : K270_126 d1 x2 x3 x4 x5 d6 x7 y0 w r o := by
  show Lg 270 126 [(some (.inr (.inr (some 0)))), d1, (some (.inl x2)), (some (.inr (.inr (some x3)))), (some (.inl x4)), (some (.inl x5)), d6, (some (.inl x7))] [(.inl y0)] w r o
  refine zq_istore 128 [(some (.inr (.inr (some 0)))), d1, (some (.inl x2)), (some (.inr (.inr (some x3)))), (some (.inl x4)), (some (.inl x5)), (some (.inl y0)), (some (.inl x7))] (show zop 270 126 = some (.istore 6, 2) by decide +kernel) rfl rfl rfl ?_
  obtain ⟨g1, h⟩ := h
  refine zq_iinc 131 [(some (.inr (.inr (some 0)))), d1, (some (.inl x2)), (some (.inr (.inr (some x3)))), (some (.inl x4)), (some (.inl x5)), (some (.inl y0)), (some (.inl (x7 + 1)))] (show zop 270 128 = some (.iinc 7 1, 3) by decide +kernel) rfl rfl g1 rfl ?_
  refine zq_goto 96 (show zop 270 131 = some (.goto (-35), 3) by decide +kernel) rfl ?_
  exact h
theorem bK270_174 {d0 : Option AV} {d1 : Option AV} {d2 : Option AV} {d3 : Option AV} {d4 : Option AV} {d5 : Option AV} {d6 : Option AV} {d7 : Option AV} {w : WS} {r : Nat} {o : Ro} (h : K270_175 d0 d1 d2 d3 d4 d5 d6 d7 0 w r o) : K270_174 d0 d1 d2 d3 d4 d5 d6 d7 w r o := by
  show Lg 270 174 [d0, d1, d2, d3, d4, d5, d6, d7] [] w r o
  refine zq_iconst 175 (show zop 270 174 = some (.iconst 0, 1) by decide +kernel) rfl rfl ?_
  exact h
theorem bK270_170 {d0 : Option AV} {d1 : Option AV} {d2 : Option AV} {d3 : Option AV} {d4 : Option AV} {d5 : Option AV} {d6 : Option AV} {d7 : Option AV} {w : WS} {r : Nat} {o : Ro} (h : K270_175 d0 d1 d2 d3 d4 d5 d6 d7 1 w r o) : K270_170 d0 d1 d2 d3 d4 d5 d6 d7 w r o := by
  show Lg 270 170 [d0, d1, d2, d3, d4, d5, d6, d7] [] w r o
  refine zq_iconst 171 (show zop 270 170 = some (.iconst 1, 1) by decide +kernel) rfl rfl ?_
  refine zq_goto 175 (show zop 270 171 = some (.goto 4, 3) by decide +kernel) rfl ?_
  exact h
theorem bK270_175 {d0 : Option AV} {d1 : Option AV} {d2 : Option AV} {d3 : Option AV} {d4 : Option AV} {d5 : Option AV} {d6 : Option AV} {d7 : Option AV} {y0 : Int} {w : WS} {r : Nat} {o : Ro} (h : (y0 = 0 ∨ y0 = 1) ∧ o = (.inl (some (.inl y0)), w)) : K270_175 d0 d1 d2 d3 d4 d5 d6 d7 y0 w r o := by
  show Lg 270 175 [d0, d1, d2, d3, d4, d5, d6, d7] [(.inl y0)] w r o
  obtain ⟨g1, h⟩ := h
  exact (zq_zret (show zop 270 175 = some (.ireturn, 1) by decide +kernel) (by decide +kernel) g1 h)
/-- PatchBenchLaw.swaps (LPatchBench;[II)Z -/
theorem lb270 {x2 : Int} {w : WS} {o : Ro} (h : (682 + w.1.length < SCR) ∧ (1 ≤ 100) ∧ K270_8 x2 (682 + w.1.length) 0 none none none (wN w 17) (100 - 1) o) : Lx 270 [(.inr (.inr (some 0))), (.inr (.inr (some 682))), (.inl x2)] w o := by
  refine Lx_of (l := 8) (r := 100) (by decide +kernel) (by decide +kernel) ?_
  show Lg 270 0 [(some (.inr (.inr (some 0)))), (some (.inr (.inr (some 682)))), (some (.inl x2)), none, none, none, none, none] [] w 100 o
  refine zq_bipush 2 (show zop 270 0 = some (.bipush 17, 2) by decide +kernel) rfl (by decide) ?_
  obtain ⟨g2, h⟩ := h
  obtain ⟨g1, h⟩ := h
  refine zq_newarray 4 (l9 := 17) (show zop 270 2 = some (.newarray .int, 2) by decide +kernel) rfl (by decide) g2 g1 ?_
  refine zq_astore_n 5 [(some (.inr (.inr (some 0)))), (some (.inr (.inr (some 682)))), (some (.inl x2)), (some (.inr (.inr (some (682 + w.1.length))))), none, none, none, none] (show zop 270 4 = some (.astore_n 3, 1) by decide +kernel) rfl rfl rfl ?_
  refine zq_iconst 6 (show zop 270 5 = some (.iconst 0, 1) by decide +kernel) rfl rfl ?_
  refine zq_istore 8 [(some (.inr (.inr (some 0)))), (some (.inr (.inr (some 682)))), (some (.inl x2)), (some (.inr (.inr (some (682 + w.1.length))))), (some (.inl 0)), none, none, none] (show zop 270 6 = some (.istore 4, 2) by decide +kernel) rfl rfl rfl ?_
  exact h
def K271_35 (x2 : Int) (x3 : Int) (x4 : Int) (d5 : Option AV) (d6 : Option AV) (d7 : Option AV) (d8 : Option AV) (w : WS) (r : Nat) (o : Ro) : Prop := Lg 271 35 [(some (.inr (.inr (some 0)))), (some (.inr (.inr (some 682)))), (some (.inl x2)), (some (.inl x3)), (some (.inl x4)), d5, d6, d7, d8] [] w r o
def K271_36 (x2 : Int) (x3 : Int) (x4 : Int) (d5 : Option AV) (d6 : Option AV) (d7 : Option AV) (d8 : Option AV) (y0 : Int) (w : WS) (r : Nat) (o : Ro) : Prop := Lg 271 36 [(some (.inr (.inr (some 0)))), (some (.inr (.inr (some 682)))), (some (.inl x2)), (some (.inl x3)), (some (.inl x4)), d5, d6, d7, d8] [(.inl y0)] w r o
def K271_41 (x2 : Int) (x3 : Int) (x4 : Int) (x5 : Int) (x6 : Int) (d7 : Option AV) (d8 : Option AV) (w : WS) (r : Nat) (o : Ro) : Prop := Lg 271 41 [(some (.inr (.inr (some 0)))), (some (.inr (.inr (some 682)))), (some (.inl x2)), (some (.inl x3)), (some (.inl x4)), (some (.inl x5)), (some (.inl x6)), d7, d8] [] w r o
def K271_70 (x2 : Int) (x3 : Int) (x4 : Int) (x5 : Int) (x6 : Int) (d7 : Option AV) (d8 : Option AV) (w : WS) (r : Nat) (o : Ro) : Prop := Lg 271 70 [(some (.inr (.inr (some 0)))), (some (.inr (.inr (some 682)))), (some (.inl x2)), (some (.inl x3)), (some (.inl x4)), (some (.inl x5)), (some (.inl x6)), d7, d8] [] w r o
def K271_86 (d0 : Option AV) (d1 : Option AV) (d2 : Option AV) (d3 : Option AV) (d4 : Option AV) (x5 : Int) (d6 : Option AV) (d7 : Option AV) (d8 : Option AV) (w : WS) (r : Nat) (o : Ro) : Prop := Lg 271 86 [d0, d1, d2, d3, d4, (some (.inl x5)), d6, d7, d8] [] w r o
def K271_156 (x2 : Int) (d3 : Option AV) (x4 : Int) (d5 : Option AV) (d6 : Option AV) (d7 : Option AV) (d8 : Option AV) (y0 : Int) (w : WS) (r : Nat) (o : Ro) : Prop := Lg 271 156 [(some (.inr (.inr (some 0)))), (some (.inr (.inr (some 682)))), (some (.inl x2)), d3, (some (.inl x4)), d5, d6, d7, d8] [(.inl y0)] w r o
def K271_155 (x2 : Int) (d3 : Option AV) (x4 : Int) (d5 : Option AV) (d6 : Option AV) (d7 : Option AV) (d8 : Option AV) (w : WS) (r : Nat) (o : Ro) : Prop := Lg 271 155 [(some (.inr (.inr (some 0)))), (some (.inr (.inr (some 682)))), (some (.inl x2)), d3, (some (.inl x4)), d5, d6, d7, d8] [] w r o
def K271_199 (d0 : Option AV) (d1 : Option AV) (d2 : Option AV) (d3 : Option AV) (d4 : Option AV) (d5 : Option AV) (d6 : Option AV) (d7 : Option AV) (d8 : Option AV) (w : WS) (r : Nat) (o : Ro) : Prop := Lg 271 199 [d0, d1, d2, d3, d4, d5, d6, d7, d8] [] w r o
def K271_200 (d0 : Option AV) (d1 : Option AV) (d2 : Option AV) (d3 : Option AV) (d4 : Option AV) (d5 : Option AV) (d6 : Option AV) (d7 : Option AV) (d8 : Option AV) (y0 : Int) (w : WS) (r : Nat) (o : Ro) : Prop := Lg 271 200 [d0, d1, d2, d3, d4, d5, d6, d7, d8] [(.inl y0)] w r o
theorem bK271_35 {x2 : Int} {x3 : Int} {x4 : Int} {d5 : Option AV} {d6 : Option AV} {d7 : Option AV} {d8 : Option AV} {w : WS} {r : Nat} {o : Ro} (h : K271_36 x2 x3 x4 d5 d6 d7 d8 0 w r o) : K271_35 x2 x3 x4 d5 d6 d7 d8 w r o := by
  show Lg 271 35 [(some (.inr (.inr (some 0)))), (some (.inr (.inr (some 682)))), (some (.inl x2)), (some (.inl x3)), (some (.inl x4)), d5, d6, d7, d8] [] w r o
  refine zq_iconst 36 (show zop 271 35 = some (.iconst 0, 1) by decide +kernel) rfl rfl ?_
  exact h
theorem bK271_36 {x2 : Int} {x3 : Int} {x4 : Int} {d5 : Option AV} {d6 : Option AV} {d7 : Option AV} {d8 : Option AV} {y0 : Int} {w : WS} {r : Nat} {o : Ro} (h : K271_41 x2 x3 x4 y0 0 d7 d8 w r o) : K271_36 x2 x3 x4 d5 d6 d7 d8 y0 w r o := by
  show Lg 271 36 [(some (.inr (.inr (some 0)))), (some (.inr (.inr (some 682)))), (some (.inl x2)), (some (.inl x3)), (some (.inl x4)), d5, d6, d7, d8] [(.inl y0)] w r o
  refine zq_istore 38 [(some (.inr (.inr (some 0)))), (some (.inr (.inr (some 682)))), (some (.inl x2)), (some (.inl x3)), (some (.inl x4)), (some (.inl y0)), d6, d7, d8] (show zop 271 36 = some (.istore 5, 2) by decide +kernel) rfl rfl rfl ?_
  refine zq_iconst 39 (show zop 271 38 = some (.iconst 0, 1) by decide +kernel) rfl rfl ?_
  refine zq_istore 41 [(some (.inr (.inr (some 0)))), (some (.inr (.inr (some 682)))), (some (.inl x2)), (some (.inl x3)), (some (.inl x4)), (some (.inl y0)), (some (.inl 0)), d7, d8] (show zop 271 39 = some (.istore 6, 2) by decide +kernel) rfl rfl rfl ?_
  exact h
theorem bK271_41 {x2 : Int} {x3 : Int} {x4 : Int} {x5 : Int} {x6 : Int} {d7 : Option AV} {d8 : Option AV} {w : WS} {r : Nat} {o : Ro} (h : (1 ≤ r) ∧ (∃ (v2 : Int) (s1 : Sg), Dc 190 [(.inr (.inr (some 0))), (.inl x4)] w.2.2 (.inl (some (.inl v2))) s1 ∧ (if x6 < v2 then (3 ≤ (r - 1)) ∧ (∃ (v6 : Int) (s5 : Sg), Dc 191 [(.inr (.inr (some 0))), (.inl x4), (.inl x6), (.inl 3)] (wS w s1).2.2 (.inl (some (.inl v6))) s5 ∧ (if v6 = 0 then (-2147483648 ≤ (x6 + 1) ∧ (x6 + 1) ≤ 2147483647) ∧ K271_41 x2 x3 x4 x5 (x6 + 1) d7 d8 (wS (wS w s1) s5) ((r - 1) - 3) o else K271_70 x2 x3 x4 x5 x6 d7 d8 (wS (wS w s1) s5) ((r - 1) - 3) o)) else K271_70 x2 x3 x4 x5 x6 d7 d8 (wS w s1) (r - 1) o))) : K271_41 x2 x3 x4 x5 x6 d7 d8 w r o := by
  show Lg 271 41 [(some (.inr (.inr (some 0)))), (some (.inr (.inr (some 682)))), (some (.inl x2)), (some (.inl x3)), (some (.inl x4)), (some (.inl x5)), (some (.inl x6)), d7, d8] [] w r o
  refine zq_iload 43 (show zop 271 41 = some (.iload 6, 2) by decide +kernel) rfl rfl ?_
  refine zq_aload_n 44 (show zop 271 43 = some (.aload_n 0, 1) by decide +kernel) rfl rfl ?_
  refine zq_iload 46 (show zop 271 44 = some (.iload 4, 2) by decide +kernel) rfl rfl ?_
  obtain ⟨g4, h⟩ := h
  obtain ⟨v2, s1, hD3, h⟩ := h
  refine zq_vi (v := some (.inl v2)) (σ' := s1) (nj := 2) (j := 190) (c := 1) (t := [(.inl x6)]) (as := [(.inr (.inr (some 0))), (.inl x4)]) 49 [(.inl v2), (.inl x6)] (show zop 271 46 = some (.invokevirtual 95, 3) by decide +kernel) (by decide +kernel) rfl (by decide +kernel) rfl rfl rfl rfl rfl rfl (by decide +kernel) (by decide +kernel) (clS_0 rfl) hD3 rfl g4 ?_
  by_cases hc10 : x6 < v2
  · rw [if_pos hc10] at h
    refine zq_icmpF 52 70 (show zop 271 49 = some (.if_icmp .ge 21, 3) by decide +kernel) rfl rfl (decide_eq_false (Int.not_le.mpr hc10)) ?_
    refine zq_aload_n 53 (show zop 271 52 = some (.aload_n 0, 1) by decide +kernel) rfl rfl ?_
    refine zq_iload 55 (show zop 271 53 = some (.iload 4, 2) by decide +kernel) rfl rfl ?_
    refine zq_iload 57 (show zop 271 55 = some (.iload 6, 2) by decide +kernel) rfl rfl ?_
    refine zq_iconst 58 (show zop 271 57 = some (.iconst 3, 1) by decide +kernel) rfl rfl ?_
    obtain ⟨g8, h⟩ := h
    obtain ⟨v6, s5, hD7, h⟩ := h
    refine zq_vi (v := some (.inl v6)) (σ' := s5) (nj := 4) (j := 191) (c := 3) (t := []) (as := [(.inr (.inr (some 0))), (.inl x4), (.inl x6), (.inl 3)]) 61 [(.inl v6)] (show zop 271 58 = some (.invokevirtual 98, 3) by decide +kernel) (by decide +kernel) rfl (by decide +kernel) rfl rfl rfl rfl rfl rfl (by decide +kernel) (by decide +kernel) (clS_0 rfl) hD7 rfl g8 ?_
    by_cases hc11 : v6 = 0
    · rw [if_pos hc11] at h
      refine zq_ifF 64 70 (show zop 271 61 = some (.ifCond .ne 9, 3) by decide +kernel) rfl rfl (decide_eq_false (fun h9 => h9 hc11)) ?_
      obtain ⟨g9, h⟩ := h
      refine zq_iinc 67 [(some (.inr (.inr (some 0)))), (some (.inr (.inr (some 682)))), (some (.inl x2)), (some (.inl x3)), (some (.inl x4)), (some (.inl x5)), (some (.inl (x6 + 1))), d7, d8] (show zop 271 64 = some (.iinc 6 1, 3) by decide +kernel) rfl rfl g9 rfl ?_
      refine zq_goto 41 (show zop 271 67 = some (.goto (-26), 3) by decide +kernel) rfl ?_
      exact h
    · rw [if_neg hc11] at h
      refine zq_ifT 70 (show zop 271 61 = some (.ifCond .ne 9, 3) by decide +kernel) rfl (decide_eq_true hc11) ?_
      exact h
  · rw [if_neg hc10] at h
    refine zq_icmpT 70 (show zop 271 49 = some (.if_icmp .ge 21, 3) by decide +kernel) rfl (decide_eq_true (Int.not_lt.mp hc10)) ?_
    exact h
theorem bK271_70 {x2 : Int} {x3 : Int} {x4 : Int} {x5 : Int} {x6 : Int} {d7 : Option AV} {d8 : Option AV} {w : WS} {r : Nat} {o : Ro} (h : (if x5 = 0 then K271_86 (some (.inr (.inr (some 0)))) (some (.inr (.inr (some 682)))) (some (.inl x2)) (some (.inl x3)) (some (.inl x4)) x5 (some (.inl x6)) d7 d8 w r o else (1 ≤ r) ∧ (∃ (v2 : Int) (s1 : Sg), Dc 190 [(.inr (.inr (some 0))), (.inl x4)] w.2.2 (.inl (some (.inl v2))) s1 ∧ (if x6 = v2 then K271_86 (some (.inr (.inr (some 0)))) (some (.inr (.inr (some 682)))) (some (.inl x2)) (some (.inl x3)) (some (.inl x4)) x5 (some (.inl x6)) d7 d8 (wS w s1) (r - 1) o else (3 ≤ (r - 1)) ∧ (∃ (v6 : Int) (s5 : Sg), Dc 191 [(.inr (.inr (some 0))), (.inl x4), (.inl x6), (.inl 2)] (wS w s1).2.2 (.inl (some (.inl v6))) s5 ∧ (2 ≤ ((r - 1) - 3)) ∧ (∃ (v10 : Int) (s9 : Sg), Dc 188 [(.inr (.inr (some 0))), (.inl x4), (.inl 1), (.inl v6)] (wS (wS w s1) s5).2.2 (.inl (some (.inl v10))) s9 ∧ (-2147483648 ≤ (20001 + (Int.tmod x3 9)) ∧ (20001 + (Int.tmod x3 9)) ≤ 2147483647) ∧ (4 ≤ (((r - 1) - 3) - 2)) ∧ (∃ (v15 : Int) (s14 : Sg), Dc 206 [(.inr (.inr (some 0))), (.inl x2), (.inl v6), (.inl (20001 + (Int.tmod x3 9)))] (wS (wS (wS w s1) s5) s9).2.2 (.inl (some (.inl v15))) s14 ∧ (if v15 = v10 then (4 ≤ ((((r - 1) - 3) - 2) - 4)) ∧ (∃ (v19 : Int) (s18 : Sg), Dc 206 [(.inr (.inr (some 0))), (.inl x2), (.inl v6), (.inl v10)] (wS (wS (wS (wS w s1) s5) s9) s14).2.2 (.inl (some (.inl v19))) s18 ∧ (-2147483648 ≤ (20001 + (Int.tmod x3 9)) ∧ (20001 + (Int.tmod x3 9)) ≤ 2147483647) ∧ (if v19 = (20001 + (Int.tmod x3 9)) then K271_156 x2 (some (.inl x3)) x4 (some (.inl x5)) (some (.inl x6)) (some (.inl v6)) (some (.inl v10)) 1 (wS (wS (wS (wS (wS w s1) s5) s9) s14) s18) (((((r - 1) - 3) - 2) - 4) - 4) o else K271_155 x2 (some (.inl x3)) x4 (some (.inl x5)) (some (.inl x6)) (some (.inl v6)) (some (.inl v10)) (wS (wS (wS (wS (wS w s1) s5) s9) s14) s18) (((((r - 1) - 3) - 2) - 4) - 4) o)) else K271_155 x2 (some (.inl x3)) x4 (some (.inl x5)) (some (.inl x6)) (some (.inl v6)) (some (.inl v10)) (wS (wS (wS (wS w s1) s5) s9) s14) ((((r - 1) - 3) - 2) - 4) o)))))))) : K271_70 x2 x3 x4 x5 x6 d7 d8 w r o := by
  show Lg 271 70 [(some (.inr (.inr (some 0)))), (some (.inr (.inr (some 682)))), (some (.inl x2)), (some (.inl x3)), (some (.inl x4)), (some (.inl x5)), (some (.inl x6)), d7, d8] [] w r o
  refine zq_iload 72 (show zop 271 70 = some (.iload 5, 2) by decide +kernel) rfl rfl ?_
  by_cases hc23 : x5 = 0
  · rw [if_pos hc23] at h
    refine zq_ifT 86 (show zop 271 72 = some (.ifCond .eq 14, 3) by decide +kernel) rfl (decide_eq_true hc23) ?_
    exact h
  · rw [if_neg hc23] at h
    refine zq_ifF 75 86 (show zop 271 72 = some (.ifCond .eq 14, 3) by decide +kernel) rfl rfl (decide_eq_false hc23) ?_
    refine zq_iload 77 (show zop 271 75 = some (.iload 6, 2) by decide +kernel) rfl rfl ?_
    refine zq_aload_n 78 (show zop 271 77 = some (.aload_n 0, 1) by decide +kernel) rfl rfl ?_
    refine zq_iload 80 (show zop 271 78 = some (.iload 4, 2) by decide +kernel) rfl rfl ?_
    obtain ⟨g4, h⟩ := h
    obtain ⟨v2, s1, hD3, h⟩ := h
    refine zq_vi (v := some (.inl v2)) (σ' := s1) (nj := 2) (j := 190) (c := 1) (t := [(.inl x6)]) (as := [(.inr (.inr (some 0))), (.inl x4)]) 83 [(.inl v2), (.inl x6)] (show zop 271 80 = some (.invokevirtual 95, 3) by decide +kernel) (by decide +kernel) rfl (by decide +kernel) rfl rfl rfl rfl rfl rfl (by decide +kernel) (by decide +kernel) (clS_0 rfl) hD3 rfl g4 ?_
    by_cases hc24 : x6 = v2
    · rw [if_pos hc24] at h
      refine zq_icmpF 86 89 (show zop 271 83 = some (.if_icmp .ne 6, 3) by decide +kernel) rfl rfl (decide_eq_false (fun h9 => h9 hc24)) ?_
      exact h
    · rw [if_neg hc24] at h
      refine zq_icmpT 89 (show zop 271 83 = some (.if_icmp .ne 6, 3) by decide +kernel) rfl (decide_eq_true hc24) ?_
      refine zq_aload_n 90 (show zop 271 89 = some (.aload_n 0, 1) by decide +kernel) rfl rfl ?_
      refine zq_iload 92 (show zop 271 90 = some (.iload 4, 2) by decide +kernel) rfl rfl ?_
      refine zq_iload 94 (show zop 271 92 = some (.iload 6, 2) by decide +kernel) rfl rfl ?_
      refine zq_iconst 95 (show zop 271 94 = some (.iconst 2, 1) by decide +kernel) rfl rfl ?_
      obtain ⟨g8, h⟩ := h
      obtain ⟨v6, s5, hD7, h⟩ := h
      refine zq_vi (v := some (.inl v6)) (σ' := s5) (nj := 4) (j := 191) (c := 3) (t := []) (as := [(.inr (.inr (some 0))), (.inl x4), (.inl x6), (.inl 2)]) 98 [(.inl v6)] (show zop 271 95 = some (.invokevirtual 98, 3) by decide +kernel) (by decide +kernel) rfl (by decide +kernel) rfl rfl rfl rfl rfl rfl (by decide +kernel) (by decide +kernel) (clS_0 rfl) hD7 rfl g8 ?_
      refine zq_istore 100 [(some (.inr (.inr (some 0)))), (some (.inr (.inr (some 682)))), (some (.inl x2)), (some (.inl x3)), (some (.inl x4)), (some (.inl x5)), (some (.inl x6)), (some (.inl v6)), d8] (show zop 271 98 = some (.istore 7, 2) by decide +kernel) rfl rfl rfl ?_
      refine zq_aload_n 101 (show zop 271 100 = some (.aload_n 0, 1) by decide +kernel) rfl rfl ?_
      refine zq_iload 103 (show zop 271 101 = some (.iload 4, 2) by decide +kernel) rfl rfl ?_
      refine zq_iconst 104 (show zop 271 103 = some (.iconst 1, 1) by decide +kernel) rfl rfl ?_
      refine zq_iload 106 (show zop 271 104 = some (.iload 7, 2) by decide +kernel) rfl rfl ?_
      obtain ⟨g12, h⟩ := h
      obtain ⟨v10, s9, hD11, h⟩ := h
      refine zq_vi (v := some (.inl v10)) (σ' := s9) (nj := 4) (j := 188) (c := 2) (t := []) (as := [(.inr (.inr (some 0))), (.inl x4), (.inl 1), (.inl v6)]) 109 [(.inl v10)] (show zop 271 106 = some (.invokevirtual 87, 3) by decide +kernel) (by decide +kernel) rfl (by decide +kernel) rfl rfl rfl rfl rfl rfl (by decide +kernel) (by decide +kernel) (clS_0 rfl) hD11 rfl g12 ?_
      refine zq_istore 111 [(some (.inr (.inr (some 0)))), (some (.inr (.inr (some 682)))), (some (.inl x2)), (some (.inl x3)), (some (.inl x4)), (some (.inl x5)), (some (.inl x6)), (some (.inl v6)), (some (.inl v10))] (show zop 271 109 = some (.istore 8, 2) by decide +kernel) rfl rfl rfl ?_
      refine zq_aload_n 112 (show zop 271 111 = some (.aload_n 0, 1) by decide +kernel) rfl rfl ?_
      refine zq_iload_n 113 (show zop 271 112 = some (.iload_n 2, 1) by decide +kernel) rfl rfl ?_
      refine zq_iload 115 (show zop 271 113 = some (.iload 7, 2) by decide +kernel) rfl rfl ?_
      refine zq_sipush 118 (show zop 271 115 = some (.sipush 20001, 3) by decide +kernel) rfl (by decide) ?_
      refine zq_iload_n 119 (show zop 271 118 = some (.iload_n 3, 1) by decide +kernel) rfl rfl ?_
      refine zq_bipush 121 (show zop 271 119 = some (.bipush 9, 2) by decide +kernel) rfl (by decide) ?_
      refine zq_irem 122 (show zop 271 121 = some (.irem, 1) by decide +kernel) rfl (by decide) ?_
      obtain ⟨g13, h⟩ := h
      refine zq_iadd 123 (show zop 271 122 = some (.iadd, 1) by decide +kernel) rfl g13 ?_
      obtain ⟨g17, h⟩ := h
      obtain ⟨v15, s14, hD16, h⟩ := h
      refine zq_vi (v := some (.inl v15)) (σ' := s14) (nj := 4) (j := 206) (c := 4) (t := []) (as := [(.inr (.inr (some 0))), (.inl x2), (.inl v6), (.inl (20001 + (Int.tmod x3 9)))]) 126 [(.inl v15)] (show zop 271 123 = some (.invokevirtual 245, 3) by decide +kernel) (by decide +kernel) rfl (by decide +kernel) rfl rfl rfl rfl rfl rfl (by decide +kernel) (by decide +kernel) (clS_0 rfl) hD16 rfl g17 ?_
      refine zq_iload 128 (show zop 271 126 = some (.iload 8, 2) by decide +kernel) rfl rfl ?_
      by_cases hc25 : v15 = v10
      · rw [if_pos hc25] at h
        refine zq_icmpF 131 155 (show zop 271 128 = some (.if_icmp .ne 27, 3) by decide +kernel) rfl rfl (decide_eq_false (fun h9 => h9 hc25)) ?_
        refine zq_aload_n 132 (show zop 271 131 = some (.aload_n 0, 1) by decide +kernel) rfl rfl ?_
        refine zq_iload_n 133 (show zop 271 132 = some (.iload_n 2, 1) by decide +kernel) rfl rfl ?_
        refine zq_iload 135 (show zop 271 133 = some (.iload 7, 2) by decide +kernel) rfl rfl ?_
        refine zq_iload 137 (show zop 271 135 = some (.iload 8, 2) by decide +kernel) rfl rfl ?_
        obtain ⟨g21, h⟩ := h
        obtain ⟨v19, s18, hD20, h⟩ := h
        refine zq_vi (v := some (.inl v19)) (σ' := s18) (nj := 4) (j := 206) (c := 4) (t := []) (as := [(.inr (.inr (some 0))), (.inl x2), (.inl v6), (.inl v10)]) 140 [(.inl v19)] (show zop 271 137 = some (.invokevirtual 245, 3) by decide +kernel) (by decide +kernel) rfl (by decide +kernel) rfl rfl rfl rfl rfl rfl (by decide +kernel) (by decide +kernel) (clS_0 rfl) hD20 rfl g21 ?_
        refine zq_sipush 143 (show zop 271 140 = some (.sipush 20001, 3) by decide +kernel) rfl (by decide) ?_
        refine zq_iload_n 144 (show zop 271 143 = some (.iload_n 3, 1) by decide +kernel) rfl rfl ?_
        refine zq_bipush 146 (show zop 271 144 = some (.bipush 9, 2) by decide +kernel) rfl (by decide) ?_
        refine zq_irem 147 (show zop 271 146 = some (.irem, 1) by decide +kernel) rfl (by decide) ?_
        obtain ⟨g22, h⟩ := h
        refine zq_iadd 148 (show zop 271 147 = some (.iadd, 1) by decide +kernel) rfl g22 ?_
        by_cases hc26 : v19 = (20001 + (Int.tmod x3 9))
        · rw [if_pos hc26] at h
          refine zq_icmpF 151 155 (show zop 271 148 = some (.if_icmp .ne 7, 3) by decide +kernel) rfl rfl (decide_eq_false (fun h9 => h9 hc26)) ?_
          refine zq_iconst 152 (show zop 271 151 = some (.iconst 1, 1) by decide +kernel) rfl rfl ?_
          refine zq_goto 156 (show zop 271 152 = some (.goto 4, 3) by decide +kernel) rfl ?_
          exact h
        · rw [if_neg hc26] at h
          refine zq_icmpT 155 (show zop 271 148 = some (.if_icmp .ne 7, 3) by decide +kernel) rfl (decide_eq_true hc26) ?_
          exact h
      · rw [if_neg hc25] at h
        refine zq_icmpT 155 (show zop 271 128 = some (.if_icmp .ne 27, 3) by decide +kernel) rfl (decide_eq_true hc25) ?_
        exact h
theorem bK271_86 {d0 : Option AV} {d1 : Option AV} {d2 : Option AV} {d3 : Option AV} {d4 : Option AV} {x5 : Int} {d6 : Option AV} {d7 : Option AV} {d8 : Option AV} {w : WS} {r : Nat} {o : Ro} (h : (x5 = 0 ∨ x5 = 1) ∧ o = (.inl (some (.inl x5)), w)) : K271_86 d0 d1 d2 d3 d4 x5 d6 d7 d8 w r o := by
  show Lg 271 86 [d0, d1, d2, d3, d4, (some (.inl x5)), d6, d7, d8] [] w r o
  refine zq_iload 88 (show zop 271 86 = some (.iload 5, 2) by decide +kernel) rfl rfl ?_
  obtain ⟨g1, h⟩ := h
  exact (zq_zret (show zop 271 88 = some (.ireturn, 1) by decide +kernel) (by decide +kernel) g1 h)
theorem bK271_156 {x2 : Int} {d3 : Option AV} {x4 : Int} {d5 : Option AV} {d6 : Option AV} {d7 : Option AV} {d8 : Option AV} {y0 : Int} {w : WS} {r : Nat} {o : Ro} (h : (w.1[0]? = some (0, 12, [])) ∧ (0 ≤ (0 : Int) ∧ (0 : Int) < 12) ∧ (-2147483648 ≤ ((w.2.1 682 ((0 : Int)).toNat) + 1) ∧ ((w.2.1 682 ((0 : Int)).toNat) + 1) ≤ 2147483647) ∧ (w.1[0]? = some (0, 12, [])) ∧ (0 ≤ (0 : Int) ∧ (0 : Int) < 12) ∧ (if y0 = 0 then K271_199 (some (.inr (.inr (some 0)))) (some (.inr (.inr (some 682)))) (some (.inl x2)) d3 (some (.inl x4)) (some (.inl y0)) d6 d7 d8 (wU w 682 ((0 : Int)).toNat ((w.2.1 682 ((0 : Int)).toNat) + 1)) r o else (2 ≤ r) ∧ (∃ (v9 : Int) (s8 : Sg), Dc 203 [(.inr (.inr (some 0))), (.inl x2)] (wU w 682 ((0 : Int)).toNat ((w.2.1 682 ((0 : Int)).toNat) + 1)).2.2 (.inl (some (.inl v9))) s8 ∧ (-2147483648 ≤ (x4 + 1) ∧ (x4 + 1) ≤ 2147483647) ∧ (if v9 = (x4 + 1) then (-2147483648 ≤ (x4 + 1) ∧ (x4 + 1) ≤ 2147483647) ∧ (2 ≤ (r - 2)) ∧ (∃ (v15 : Int) (s14 : Sg), Dc 193 [(.inr (.inr (some 0))), (.inl x4), (.inl (x4 + 1))] (wS (wU w 682 ((0 : Int)).toNat ((w.2.1 682 ((0 : Int)).toNat) + 1)) s8).2.2 (.inl (some (.inl v15))) s14 ∧ (if v15 = 0 then K271_199 (some (.inr (.inr (some 0)))) (some (.inr (.inr (some 682)))) (some (.inl x2)) d3 (some (.inl x4)) (some (.inl y0)) d6 d7 d8 (wS (wS (wU w 682 ((0 : Int)).toNat ((w.2.1 682 ((0 : Int)).toNat) + 1)) s8) s14) ((r - 2) - 2) o else K271_200 (some (.inr (.inr (some 0)))) (some (.inr (.inr (some 682)))) (some (.inl x2)) d3 (some (.inl x4)) (some (.inl y0)) d6 d7 d8 1 (wS (wS (wU w 682 ((0 : Int)).toNat ((w.2.1 682 ((0 : Int)).toNat) + 1)) s8) s14) ((r - 2) - 2) o)) else K271_199 (some (.inr (.inr (some 0)))) (some (.inr (.inr (some 682)))) (some (.inl x2)) d3 (some (.inl x4)) (some (.inl y0)) d6 d7 d8 (wS (wU w 682 ((0 : Int)).toNat ((w.2.1 682 ((0 : Int)).toNat) + 1)) s8) (r - 2) o)))) : K271_156 x2 d3 x4 d5 d6 d7 d8 y0 w r o := by
  show Lg 271 156 [(some (.inr (.inr (some 0)))), (some (.inr (.inr (some 682)))), (some (.inl x2)), d3, (some (.inl x4)), d5, d6, d7, d8] [(.inl y0)] w r o
  refine zq_istore 158 [(some (.inr (.inr (some 0)))), (some (.inr (.inr (some 682)))), (some (.inl x2)), d3, (some (.inl x4)), (some (.inl y0)), d6, d7, d8] (show zop 271 156 = some (.istore 5, 2) by decide +kernel) rfl rfl rfl ?_
  refine zq_aload_n 159 (show zop 271 158 = some (.aload_n 1, 1) by decide +kernel) rfl rfl ?_
  refine zq_iconst 160 (show zop 271 159 = some (.iconst 0, 1) by decide +kernel) rfl rfl ?_
  refine zq_dup2 161 (show zop 271 160 = some (.dup2, 1) by decide +kernel) rfl rfl rfl ?_
  obtain ⟨g3, h⟩ := h
  obtain ⟨g1, h⟩ := h
  refine zq_iaload 162 12 (show zop 271 161 = some (.iaload, 1) by decide +kernel) rfl (by decide) g3 g1 ?_
  refine zq_iconst 163 (show zop 271 162 = some (.iconst 1, 1) by decide +kernel) rfl rfl ?_
  obtain ⟨g4, h⟩ := h
  refine zq_iadd 164 (show zop 271 163 = some (.iadd, 1) by decide +kernel) rfl g4 ?_
  obtain ⟨g7, h⟩ := h
  obtain ⟨g5, h⟩ := h
  refine zq_iastore 165 12 (show zop 271 164 = some (.iastore, 1) by decide +kernel) rfl (by decide) g7 g5 ?_
  refine zq_iload 167 (show zop 271 165 = some (.iload 5, 2) by decide +kernel) rfl rfl ?_
  by_cases hc18 : y0 = 0
  · rw [if_pos hc18] at h
    refine zq_ifT 199 (show zop 271 167 = some (.ifCond .eq 32, 3) by decide +kernel) rfl (decide_eq_true hc18) ?_
    exact h
  · rw [if_neg hc18] at h
    refine zq_ifF 170 199 (show zop 271 167 = some (.ifCond .eq 32, 3) by decide +kernel) rfl rfl (decide_eq_false hc18) ?_
    refine zq_aload_n 171 (show zop 271 170 = some (.aload_n 0, 1) by decide +kernel) rfl rfl ?_
    refine zq_iload_n 172 (show zop 271 171 = some (.iload_n 2, 1) by decide +kernel) rfl rfl ?_
    obtain ⟨g11, h⟩ := h
    obtain ⟨v9, s8, hD10, h⟩ := h
    refine zq_vi (v := some (.inl v9)) (σ' := s8) (nj := 2) (j := 203) (c := 2) (t := []) (as := [(.inr (.inr (some 0))), (.inl x2)]) 175 [(.inl v9)] (show zop 271 172 = some (.invokevirtual 242, 3) by decide +kernel) (by decide +kernel) rfl (by decide +kernel) rfl rfl rfl rfl rfl rfl (by decide +kernel) (by decide +kernel) (clS_0 rfl) hD10 rfl g11 ?_
    refine zq_iload 177 (show zop 271 175 = some (.iload 4, 2) by decide +kernel) rfl rfl ?_
    refine zq_iconst 178 (show zop 271 177 = some (.iconst 1, 1) by decide +kernel) rfl rfl ?_
    obtain ⟨g12, h⟩ := h
    refine zq_iadd 179 (show zop 271 178 = some (.iadd, 1) by decide +kernel) rfl g12 ?_
    by_cases hc19 : v9 = (x4 + 1)
    · rw [if_pos hc19] at h
      refine zq_icmpF 182 199 (show zop 271 179 = some (.if_icmp .ne 20, 3) by decide +kernel) rfl rfl (decide_eq_false (fun h9 => h9 hc19)) ?_
      refine zq_aload_n 183 (show zop 271 182 = some (.aload_n 0, 1) by decide +kernel) rfl rfl ?_
      refine zq_iload 185 (show zop 271 183 = some (.iload 4, 2) by decide +kernel) rfl rfl ?_
      refine zq_iload 187 (show zop 271 185 = some (.iload 4, 2) by decide +kernel) rfl rfl ?_
      refine zq_iconst 188 (show zop 271 187 = some (.iconst 1, 1) by decide +kernel) rfl rfl ?_
      obtain ⟨g13, h⟩ := h
      refine zq_iadd 189 (show zop 271 188 = some (.iadd, 1) by decide +kernel) rfl g13 ?_
      obtain ⟨g17, h⟩ := h
      obtain ⟨v15, s14, hD16, h⟩ := h
      refine zq_vi (v := some (.inl v15)) (σ' := s14) (nj := 3) (j := 193) (c := 2) (t := []) (as := [(.inr (.inr (some 0))), (.inl x4), (.inl (x4 + 1))]) 192 [(.inl v15)] (show zop 271 189 = some (.invokevirtual 138, 3) by decide +kernel) (by decide +kernel) rfl (by decide +kernel) rfl rfl rfl rfl rfl rfl (by decide +kernel) (by decide +kernel) (clS_0 rfl) hD16 rfl g17 ?_
      by_cases hc20 : v15 = 0
      · rw [if_pos hc20] at h
        refine zq_ifT 199 (show zop 271 192 = some (.ifCond .eq 7, 3) by decide +kernel) rfl (decide_eq_true hc20) ?_
        exact h
      · rw [if_neg hc20] at h
        refine zq_ifF 195 199 (show zop 271 192 = some (.ifCond .eq 7, 3) by decide +kernel) rfl rfl (decide_eq_false hc20) ?_
        refine zq_iconst 196 (show zop 271 195 = some (.iconst 1, 1) by decide +kernel) rfl rfl ?_
        refine zq_goto 200 (show zop 271 196 = some (.goto 4, 3) by decide +kernel) rfl ?_
        exact h
    · rw [if_neg hc19] at h
      refine zq_icmpT 199 (show zop 271 179 = some (.if_icmp .ne 20, 3) by decide +kernel) rfl (decide_eq_true hc19) ?_
      exact h
theorem bK271_155 {x2 : Int} {d3 : Option AV} {x4 : Int} {d5 : Option AV} {d6 : Option AV} {d7 : Option AV} {d8 : Option AV} {w : WS} {r : Nat} {o : Ro} (h : K271_156 x2 d3 x4 d5 d6 d7 d8 0 w r o) : K271_155 x2 d3 x4 d5 d6 d7 d8 w r o := by
  show Lg 271 155 [(some (.inr (.inr (some 0)))), (some (.inr (.inr (some 682)))), (some (.inl x2)), d3, (some (.inl x4)), d5, d6, d7, d8] [] w r o
  refine zq_iconst 156 (show zop 271 155 = some (.iconst 0, 1) by decide +kernel) rfl rfl ?_
  exact h
theorem bK271_199 {d0 : Option AV} {d1 : Option AV} {d2 : Option AV} {d3 : Option AV} {d4 : Option AV} {d5 : Option AV} {d6 : Option AV} {d7 : Option AV} {d8 : Option AV} {w : WS} {r : Nat} {o : Ro} (h : K271_200 d0 d1 d2 d3 d4 d5 d6 d7 d8 0 w r o) : K271_199 d0 d1 d2 d3 d4 d5 d6 d7 d8 w r o := by
  show Lg 271 199 [d0, d1, d2, d3, d4, d5, d6, d7, d8] [] w r o
  refine zq_iconst 200 (show zop 271 199 = some (.iconst 0, 1) by decide +kernel) rfl rfl ?_
  exact h
theorem bK271_200 {d0 : Option AV} {d1 : Option AV} {d2 : Option AV} {d3 : Option AV} {d4 : Option AV} {d5 : Option AV} {d6 : Option AV} {d7 : Option AV} {d8 : Option AV} {y0 : Int} {w : WS} {r : Nat} {o : Ro} (h : (y0 = 0 ∨ y0 = 1) ∧ o = (.inl (some (.inl y0)), w)) : K271_200 d0 d1 d2 d3 d4 d5 d6 d7 d8 y0 w r o := by
  show Lg 271 200 [d0, d1, d2, d3, d4, d5, d6, d7, d8] [(.inl y0)] w r o
  obtain ⟨g1, h⟩ := h
  exact (zq_zret (show zop 271 200 = some (.ireturn, 1) by decide +kernel) (by decide +kernel) g1 h)
/-- PatchBenchLaw.edits (LPatchBench;[III)Z -/
theorem lb271 {x2 : Int} {x3 : Int} {w : WS} {o : Ro} (h : (w.1[0]? = some (0, 12, [])) ∧ (0 ≤ (0 : Int) ∧ (0 : Int) < 12) ∧ (w.1[0]? = some (0, 12, [])) ∧ (0 ≤ (0 : Int) ∧ (0 : Int) < 12) ∧ (-2147483648 ≤ ((w.2.1 682 ((0 : Int)).toNat) + 1) ∧ ((w.2.1 682 ((0 : Int)).toNat) + 1) ≤ 2147483647) ∧ (w.1[0]? = some (0, 12, [])) ∧ (0 ≤ (0 : Int) ∧ (0 : Int) < 12) ∧ (2 ≤ 1000) ∧ (∃ (v12 : Int) (s11 : Sg), Dc 203 [(.inr (.inr (some 0))), (.inl x2)] (wU w 682 ((0 : Int)).toNat ((w.2.1 682 ((0 : Int)).toNat) + 1)).2.2 (.inl (some (.inl v12))) s11 ∧ (if v12 = (w.2.1 682 ((0 : Int)).toNat) then (800 ≤ (1000 - 2)) ∧ (∃ (v16 : Int) (w15 : WS), Lx 253 [(.inr (.inr (some 0))), (.inl (w.2.1 682 ((0 : Int)).toNat))] (wS (wU w 682 ((0 : Int)).toNat ((w.2.1 682 ((0 : Int)).toNat) + 1)) s11) (.inl (some (.inl v16)), w15) ∧ (if v16 = 0 then K271_35 x2 x3 (w.2.1 682 ((0 : Int)).toNat) none none none none w15 ((1000 - 2) - 800) o else K271_36 x2 x3 (w.2.1 682 ((0 : Int)).toNat) none none none none 1 w15 ((1000 - 2) - 800) o)) else K271_35 x2 x3 (w.2.1 682 ((0 : Int)).toNat) none none none none (wS (wU w 682 ((0 : Int)).toNat ((w.2.1 682 ((0 : Int)).toNat) + 1)) s11) (1000 - 2) o))) : Lx 271 [(.inr (.inr (some 0))), (.inr (.inr (some 682))), (.inl x2), (.inl x3)] w o := by
  refine Lx_of (l := 9) (r := 1000) (by decide +kernel) (by decide +kernel) ?_
  show Lg 271 0 [(some (.inr (.inr (some 0)))), (some (.inr (.inr (some 682)))), (some (.inl x2)), (some (.inl x3)), none, none, none, none, none] [] w 1000 o
  refine zq_aload_n 1 (show zop 271 0 = some (.aload_n 1, 1) by decide +kernel) rfl rfl ?_
  refine zq_iconst 2 (show zop 271 1 = some (.iconst 0, 1) by decide +kernel) rfl rfl ?_
  obtain ⟨g3, h⟩ := h
  obtain ⟨g1, h⟩ := h
  refine zq_iaload 3 12 (show zop 271 2 = some (.iaload, 1) by decide +kernel) rfl (by decide) g3 g1 ?_
  refine zq_istore 5 [(some (.inr (.inr (some 0)))), (some (.inr (.inr (some 682)))), (some (.inl x2)), (some (.inl x3)), (some (.inl (w.2.1 682 ((0 : Int)).toNat))), none, none, none, none] (show zop 271 3 = some (.istore 4, 2) by decide +kernel) rfl rfl rfl ?_
  refine zq_aload_n 6 (show zop 271 5 = some (.aload_n 1, 1) by decide +kernel) rfl rfl ?_
  refine zq_iconst 7 (show zop 271 6 = some (.iconst 0, 1) by decide +kernel) rfl rfl ?_
  refine zq_dup2 8 (show zop 271 7 = some (.dup2, 1) by decide +kernel) rfl rfl rfl ?_
  obtain ⟨g6, h⟩ := h
  obtain ⟨g4, h⟩ := h
  refine zq_iaload 9 12 (show zop 271 8 = some (.iaload, 1) by decide +kernel) rfl (by decide) g6 g4 ?_
  refine zq_iconst 10 (show zop 271 9 = some (.iconst 1, 1) by decide +kernel) rfl rfl ?_
  obtain ⟨g7, h⟩ := h
  refine zq_iadd 11 (show zop 271 10 = some (.iadd, 1) by decide +kernel) rfl g7 ?_
  obtain ⟨g10, h⟩ := h
  obtain ⟨g8, h⟩ := h
  refine zq_iastore 12 12 (show zop 271 11 = some (.iastore, 1) by decide +kernel) rfl (by decide) g10 g8 ?_
  refine zq_aload_n 13 (show zop 271 12 = some (.aload_n 0, 1) by decide +kernel) rfl rfl ?_
  refine zq_iload_n 14 (show zop 271 13 = some (.iload_n 2, 1) by decide +kernel) rfl rfl ?_
  obtain ⟨g14, h⟩ := h
  obtain ⟨v12, s11, hD13, h⟩ := h
  refine zq_vi (v := some (.inl v12)) (σ' := s11) (nj := 2) (j := 203) (c := 2) (t := []) (as := [(.inr (.inr (some 0))), (.inl x2)]) 17 [(.inl v12)] (show zop 271 14 = some (.invokevirtual 242, 3) by decide +kernel) (by decide +kernel) rfl (by decide +kernel) rfl rfl rfl rfl rfl rfl (by decide +kernel) (by decide +kernel) (clS_0 rfl) hD13 rfl g14 ?_
  refine zq_iload 19 (show zop 271 17 = some (.iload 4, 2) by decide +kernel) rfl rfl ?_
  by_cases hc19 : v12 = (w.2.1 682 ((0 : Int)).toNat)
  · rw [if_pos hc19] at h
    refine zq_icmpF 22 35 (show zop 271 19 = some (.if_icmp .ne 16, 3) by decide +kernel) rfl rfl (decide_eq_false (fun h9 => h9 hc19)) ?_
    refine zq_aload_n 23 (show zop 271 22 = some (.aload_n 0, 1) by decide +kernel) rfl rfl ?_
    refine zq_iload 25 (show zop 271 23 = some (.iload 4, 2) by decide +kernel) rfl rfl ?_
    obtain ⟨g18, h⟩ := h
    obtain ⟨v16, w15, hD17, h⟩ := h
    refine zq_lx (v := some (.inl v16)) (w' := w15) (nj := 2) (j := 253) (c := 800) (t := []) (as := [(.inr (.inr (some 0))), (.inl (w.2.1 682 ((0 : Int)).toNat))]) 28 [(.inl v16)] (show zop 271 25 = some (.invokestatic 121, 3) by decide +kernel) (by decide +kernel) rfl (by decide +kernel) (by decide +kernel) rfl rfl rfl rfl rfl hD17 rfl g18 ?_
    by_cases hc20 : v16 = 0
    · rw [if_pos hc20] at h
      refine zq_ifT 35 (show zop 271 28 = some (.ifCond .eq 7, 3) by decide +kernel) rfl (decide_eq_true hc20) ?_
      exact h
    · rw [if_neg hc20] at h
      refine zq_ifF 31 35 (show zop 271 28 = some (.ifCond .eq 7, 3) by decide +kernel) rfl rfl (decide_eq_false hc20) ?_
      refine zq_iconst 32 (show zop 271 31 = some (.iconst 1, 1) by decide +kernel) rfl rfl ?_
      refine zq_goto 36 (show zop 271 32 = some (.goto 4, 3) by decide +kernel) rfl ?_
      exact h
  · rw [if_neg hc19] at h
    refine zq_icmpT 35 (show zop 271 19 = some (.if_icmp .ne 16, 3) by decide +kernel) rfl (decide_eq_true hc19) ?_
    exact h
def K272_15 (x2 : Int) (d3 : Option AV) (d4 : Option AV) (d5 : Option AV) (d6 : Option AV) (d7 : Option AV) (y0 : Int) (w : WS) (r : Nat) (o : Ro) : Prop := Lg 272 15 [(some (.inr (.inr (some 0)))), (some (.inr (.inr (some 682)))), (some (.inl x2)), d3, d4, d5, d6, d7] [(.inl y0)] w r o
def K272_22 (x2 : Int) (x3 : Int) (x4 : Int) (x5 : Int) (d6 : Option AV) (d7 : Option AV) (w : WS) (r : Nat) (o : Ro) : Prop := Lg 272 22 [(some (.inr (.inr (some 0)))), (some (.inr (.inr (some 682)))), (some (.inl x2)), (some (.inl x3)), (some (.inl x4)), (some (.inl x5)), d6, d7] [] w r o
def K272_84 (x2 : Int) (x3 : Int) (x4 : Int) (d5 : Option AV) (d6 : Option AV) (d7 : Option AV) (w : WS) (r : Nat) (o : Ro) : Prop := Lg 272 84 [(some (.inr (.inr (some 0)))), (some (.inr (.inr (some 682)))), (some (.inl x2)), (some (.inl x3)), (some (.inl x4)), d5, d6, d7] [] w r o
def K272_77 (x2 : Int) (d3 : Option AV) (x4 : Int) (x5 : Int) (d6 : Option AV) (d7 : Option AV) (y0 : Int) (w : WS) (r : Nat) (o : Ro) : Prop := Lg 272 77 [(some (.inr (.inr (some 0)))), (some (.inr (.inr (some 682)))), (some (.inl x2)), d3, (some (.inl x4)), (some (.inl x5)), d6, d7] [(.inl y0)] w r o
def K272_76 (x2 : Int) (d3 : Option AV) (x4 : Int) (x5 : Int) (d6 : Option AV) (d7 : Option AV) (w : WS) (r : Nat) (o : Ro) : Prop := Lg 272 76 [(some (.inr (.inr (some 0)))), (some (.inr (.inr (some 682)))), (some (.inl x2)), d3, (some (.inl x4)), (some (.inl x5)), d6, d7] [] w r o
def K272_208 (x2 : Int) (x3 : Int) (d4 : Option AV) (d5 : Option AV) (d6 : Option AV) (d7 : Option AV) (w : WS) (r : Nat) (o : Ro) : Prop := Lg 272 208 [(some (.inr (.inr (some 0)))), (some (.inr (.inr (some 682)))), (some (.inl x2)), (some (.inl x3)), d4, d5, d6, d7] [] w r o
def K272_130 (x2 : Int) (d3 : Option AV) (x4 : Int) (x5 : Int) (d6 : Option AV) (d7 : Option AV) (y0 : Int) (w : WS) (r : Nat) (o : Ro) : Prop := Lg 272 130 [(some (.inr (.inr (some 0)))), (some (.inr (.inr (some 682)))), (some (.inl x2)), d3, (some (.inl x4)), (some (.inl x5)), d6, d7] [(.inl y0)] w r o
def K272_221 (d0 : Option AV) (d1 : Option AV) (d2 : Option AV) (x3 : Int) (d4 : Option AV) (d5 : Option AV) (d6 : Option AV) (d7 : Option AV) (w : WS) (r : Nat) (o : Ro) : Prop := Lg 272 221 [d0, d1, d2, (some (.inl x3)), d4, d5, d6, d7] [] w r o
def K272_229 (d0 : Option AV) (d1 : Option AV) (d2 : Option AV) (x3 : Int) (d4 : Option AV) (d5 : Option AV) (d6 : Option AV) (d7 : Option AV) (y0 : Int) (w : WS) (r : Nat) (o : Ro) : Prop := Lg 272 229 [d0, d1, d2, (some (.inl x3)), d4, d5, d6, d7] [(.inl y0)] w r o
def K272_135 (x2 : Int) (d3 : Option AV) (x4 : Int) (x5 : Int) (x6 : Int) (x7 : Int) (w : WS) (r : Nat) (o : Ro) : Prop := Lg 272 135 [(some (.inr (.inr (some 0)))), (some (.inr (.inr (some 682)))), (some (.inl x2)), d3, (some (.inl x4)), (some (.inl x5)), (some (.inl x6)), (some (.inl x7))] [] w r o
def K272_252 (d0 : Option AV) (d1 : Option AV) (d2 : Option AV) (d3 : Option AV) (d4 : Option AV) (d5 : Option AV) (d6 : Option AV) (d7 : Option AV) (w : WS) (r : Nat) (o : Ro) : Prop := Lg 272 252 [d0, d1, d2, d3, d4, d5, d6, d7] [] w r o
def K272_253 (d0 : Option AV) (d1 : Option AV) (d2 : Option AV) (d3 : Option AV) (d4 : Option AV) (d5 : Option AV) (d6 : Option AV) (d7 : Option AV) (y0 : Int) (w : WS) (r : Nat) (o : Ro) : Prop := Lg 272 253 [d0, d1, d2, d3, d4, d5, d6, d7] [(.inl y0)] w r o
def K272_160 (x2 : Int) (d3 : Option AV) (x4 : Int) (x5 : Int) (d6 : Option AV) (x7 : Int) (w : WS) (r : Nat) (o : Ro) : Prop := Lg 272 160 [(some (.inr (.inr (some 0)))), (some (.inr (.inr (some 682)))), (some (.inl x2)), d3, (some (.inl x4)), (some (.inl x5)), d6, (some (.inl x7))] [] w r o
def K272_165 (x2 : Int) (d3 : Option AV) (x4 : Int) (x5 : Int) (d6 : Option AV) (x7 : Int) (y0 : Int) (w : WS) (r : Nat) (o : Ro) : Prop := Lg 272 165 [(some (.inr (.inr (some 0)))), (some (.inr (.inr (some 682)))), (some (.inl x2)), d3, (some (.inl x4)), (some (.inl x5)), d6, (some (.inl x7))] [(.inl y0)] w r o
def K272_206 (x2 : Int) (d3 : Option AV) (d4 : Option AV) (d5 : Option AV) (d6 : Option AV) (d7 : Option AV) (w : WS) (r : Nat) (o : Ro) : Prop := Lg 272 206 [(some (.inr (.inr (some 0)))), (some (.inr (.inr (some 682)))), (some (.inl x2)), d3, d4, d5, d6, d7] [] w r o
def K272_207 (x2 : Int) (d3 : Option AV) (d4 : Option AV) (d5 : Option AV) (d6 : Option AV) (d7 : Option AV) (y0 : Int) (w : WS) (r : Nat) (o : Ro) : Prop := Lg 272 207 [(some (.inr (.inr (some 0)))), (some (.inr (.inr (some 682)))), (some (.inl x2)), d3, d4, d5, d6, d7] [(.inl y0)] w r o
theorem bK272_15 {x2 : Int} {d3 : Option AV} {d4 : Option AV} {d5 : Option AV} {d6 : Option AV} {d7 : Option AV} {y0 : Int} {w : WS} {r : Nat} {o : Ro} (h : K272_22 x2 y0 0 0 d6 d7 w r o) : K272_15 x2 d3 d4 d5 d6 d7 y0 w r o := by
  show Lg 272 15 [(some (.inr (.inr (some 0)))), (some (.inr (.inr (some 682)))), (some (.inl x2)), d3, d4, d5, d6, d7] [(.inl y0)] w r o
  refine zq_istore_n 16 [(some (.inr (.inr (some 0)))), (some (.inr (.inr (some 682)))), (some (.inl x2)), (some (.inl y0)), d4, d5, d6, d7] (show zop 272 15 = some (.istore_n 3, 1) by decide +kernel) rfl rfl rfl ?_
  refine zq_iconst 17 (show zop 272 16 = some (.iconst 0, 1) by decide +kernel) rfl rfl ?_
  refine zq_istore 19 [(some (.inr (.inr (some 0)))), (some (.inr (.inr (some 682)))), (some (.inl x2)), (some (.inl y0)), (some (.inl 0)), d5, d6, d7] (show zop 272 17 = some (.istore 4, 2) by decide +kernel) rfl rfl rfl ?_
  refine zq_iconst 20 (show zop 272 19 = some (.iconst 0, 1) by decide +kernel) rfl rfl ?_
  refine zq_istore 22 [(some (.inr (.inr (some 0)))), (some (.inr (.inr (some 682)))), (some (.inl x2)), (some (.inl y0)), (some (.inl 0)), (some (.inl 0)), d6, d7] (show zop 272 20 = some (.istore 5, 2) by decide +kernel) rfl rfl rfl ?_
  exact h
theorem bK272_22 {x2 : Int} {x3 : Int} {x4 : Int} {x5 : Int} {d6 : Option AV} {d7 : Option AV} {w : WS} {r : Nat} {o : Ro} (h : (w.1[0]? = some (0, 12, [])) ∧ (0 ≤ (3 : Int) ∧ (3 : Int) < 12) ∧ (if x5 < (w.2.1 682 ((3 : Int)).toNat) then (if x3 = 0 then K272_84 x2 x3 x4 (some (.inl x5)) d6 d7 w r o else (1 ≤ r) ∧ (∃ (v5 : Int) (s4 : Sg), Dc 211 [(.inr (.inr (some 0))), (.inl x5)] w.2.2 (.inl (some (.inl v5))) s4 ∧ (1 ≤ (r - 1)) ∧ (∃ (v9 : Int) (s8 : Sg), Dc 209 [(.inr (.inr (some 0))), (.inl x5)] (wS w s4).2.2 (.inl (some (.inl v9))) s8 ∧ (-2147483648 ≤ (6 + x5) ∧ (6 + x5) ≤ 2147483647) ∧ ((wS (wS w s4) s8).1[0]? = some (0, 12, [])) ∧ (0 ≤ (6 + x5) ∧ (6 + x5) < 12) ∧ (if v9 = ((wS (wS w s4) s8).2.1 682 ((6 + x5)).toNat) then (if 0 ≤ v5 then (if v5 < (iShl 1 x5) then K272_77 x2 (some (.inl x3)) x4 x5 (some (.inl v5)) d7 1 (wS (wS w s4) s8) ((r - 1) - 1) o else K272_76 x2 (some (.inl x3)) x4 x5 (some (.inl v5)) d7 (wS (wS w s4) s8) ((r - 1) - 1) o) else K272_76 x2 (some (.inl x3)) x4 x5 (some (.inl v5)) d7 (wS (wS w s4) s8) ((r - 1) - 1) o) else K272_76 x2 (some (.inl x3)) x4 x5 (some (.inl v5)) d7 (wS (wS w s4) s8) ((r - 1) - 1) o)))) else K272_84 x2 x3 x4 (some (.inl x5)) d6 d7 w r o)) : K272_22 x2 x3 x4 x5 d6 d7 w r o := by
  show Lg 272 22 [(some (.inr (.inr (some 0)))), (some (.inr (.inr (some 682)))), (some (.inl x2)), (some (.inl x3)), (some (.inl x4)), (some (.inl x5)), d6, d7] [] w r o
  refine zq_iload 24 (show zop 272 22 = some (.iload 5, 2) by decide +kernel) rfl rfl ?_
  refine zq_aload_n 25 (show zop 272 24 = some (.aload_n 1, 1) by decide +kernel) rfl rfl ?_
  refine zq_iconst 26 (show zop 272 25 = some (.iconst 3, 1) by decide +kernel) rfl rfl ?_
  obtain ⟨g3, h⟩ := h
  obtain ⟨g1, h⟩ := h
  refine zq_iaload 27 12 (show zop 272 26 = some (.iaload, 1) by decide +kernel) rfl (by decide) g3 g1 ?_
  by_cases hc16 : x5 < (w.2.1 682 ((3 : Int)).toNat)
  · rw [if_pos hc16] at h
    refine zq_icmpF 30 84 (show zop 272 27 = some (.if_icmp .ge 57, 3) by decide +kernel) rfl rfl (decide_eq_false (Int.not_le.mpr hc16)) ?_
    refine zq_iload_n 31 (show zop 272 30 = some (.iload_n 3, 1) by decide +kernel) rfl rfl ?_
    by_cases hc17 : x3 = 0
    · rw [if_pos hc17] at h
      refine zq_ifT 84 (show zop 272 31 = some (.ifCond .eq 53, 3) by decide +kernel) rfl (decide_eq_true hc17) ?_
      exact h
    · rw [if_neg hc17] at h
      refine zq_ifF 34 84 (show zop 272 31 = some (.ifCond .eq 53, 3) by decide +kernel) rfl rfl (decide_eq_false hc17) ?_
      refine zq_aload_n 35 (show zop 272 34 = some (.aload_n 0, 1) by decide +kernel) rfl rfl ?_
      refine zq_iload 37 (show zop 272 35 = some (.iload 5, 2) by decide +kernel) rfl rfl ?_
      obtain ⟨g7, h⟩ := h
      obtain ⟨v5, s4, hD6, h⟩ := h
      refine zq_vi (v := some (.inl v5)) (σ' := s4) (nj := 2) (j := 211) (c := 1) (t := []) (as := [(.inr (.inr (some 0))), (.inl x5)]) 40 [(.inl v5)] (show zop 272 37 = some (.invokevirtual 239, 3) by decide +kernel) (by decide +kernel) rfl (by decide +kernel) rfl rfl rfl rfl rfl rfl (by decide +kernel) (by decide +kernel) (clS_0 rfl) hD6 rfl g7 ?_
      refine zq_istore 42 [(some (.inr (.inr (some 0)))), (some (.inr (.inr (some 682)))), (some (.inl x2)), (some (.inl x3)), (some (.inl x4)), (some (.inl x5)), (some (.inl v5)), d7] (show zop 272 40 = some (.istore 6, 2) by decide +kernel) rfl rfl rfl ?_
      refine zq_aload_n 43 (show zop 272 42 = some (.aload_n 0, 1) by decide +kernel) rfl rfl ?_
      refine zq_iload 45 (show zop 272 43 = some (.iload 5, 2) by decide +kernel) rfl rfl ?_
      obtain ⟨g11, h⟩ := h
      obtain ⟨v9, s8, hD10, h⟩ := h
      refine zq_vi (v := some (.inl v9)) (σ' := s8) (nj := 2) (j := 209) (c := 1) (t := []) (as := [(.inr (.inr (some 0))), (.inl x5)]) 48 [(.inl v9)] (show zop 272 45 = some (.invokevirtual 248, 3) by decide +kernel) (by decide +kernel) rfl (by decide +kernel) rfl rfl rfl rfl rfl rfl (by decide +kernel) (by decide +kernel) (clS_0 rfl) hD10 rfl g11 ?_
      refine zq_aload_n 49 (show zop 272 48 = some (.aload_n 1, 1) by decide +kernel) rfl rfl ?_
      refine zq_bipush 51 (show zop 272 49 = some (.bipush 6, 2) by decide +kernel) rfl (by decide) ?_
      refine zq_iload 53 (show zop 272 51 = some (.iload 5, 2) by decide +kernel) rfl rfl ?_
      obtain ⟨g12, h⟩ := h
      refine zq_iadd 54 (show zop 272 53 = some (.iadd, 1) by decide +kernel) rfl g12 ?_
      obtain ⟨g15, h⟩ := h
      obtain ⟨g13, h⟩ := h
      refine zq_iaload 55 12 (show zop 272 54 = some (.iaload, 1) by decide +kernel) rfl (by decide) g15 g13 ?_
      by_cases hc18 : v9 = ((wS (wS w s4) s8).2.1 682 ((6 + x5)).toNat)
      · rw [if_pos hc18] at h
        refine zq_icmpF 58 76 (show zop 272 55 = some (.if_icmp .ne 21, 3) by decide +kernel) rfl rfl (decide_eq_false (fun h9 => h9 hc18)) ?_
        refine zq_iload 60 (show zop 272 58 = some (.iload 6, 2) by decide +kernel) rfl rfl ?_
        by_cases hc19 : 0 ≤ v5
        · rw [if_pos hc19] at h
          refine zq_ifF 63 76 (show zop 272 60 = some (.ifCond .lt 16, 3) by decide +kernel) rfl rfl (decide_eq_false (Int.not_lt.mpr hc19)) ?_
          refine zq_iload 65 (show zop 272 63 = some (.iload 6, 2) by decide +kernel) rfl rfl ?_
          refine zq_iconst 66 (show zop 272 65 = some (.iconst 1, 1) by decide +kernel) rfl rfl ?_
          refine zq_iload 68 (show zop 272 66 = some (.iload 5, 2) by decide +kernel) rfl rfl ?_
          refine zq_ishl 69 (show zop 272 68 = some (.ishl, 1) by decide +kernel) rfl ?_
          by_cases hc20 : v5 < (iShl 1 x5)
          · rw [if_pos hc20] at h
            refine zq_icmpF 72 76 (show zop 272 69 = some (.if_icmp .ge 7, 3) by decide +kernel) rfl rfl (decide_eq_false (Int.not_le.mpr hc20)) ?_
            refine zq_iconst 73 (show zop 272 72 = some (.iconst 1, 1) by decide +kernel) rfl rfl ?_
            refine zq_goto 77 (show zop 272 73 = some (.goto 4, 3) by decide +kernel) rfl ?_
            exact h
          · rw [if_neg hc20] at h
            refine zq_icmpT 76 (show zop 272 69 = some (.if_icmp .ge 7, 3) by decide +kernel) rfl (decide_eq_true (Int.not_lt.mp hc20)) ?_
            exact h
        · rw [if_neg hc19] at h
          refine zq_ifT 76 (show zop 272 60 = some (.ifCond .lt 16, 3) by decide +kernel) rfl (decide_eq_true (Int.not_le.mp hc19)) ?_
          exact h
      · rw [if_neg hc18] at h
        refine zq_icmpT 76 (show zop 272 55 = some (.if_icmp .ne 21, 3) by decide +kernel) rfl (decide_eq_true hc18) ?_
        exact h
  · rw [if_neg hc16] at h
    refine zq_icmpT 84 (show zop 272 27 = some (.if_icmp .ge 57, 3) by decide +kernel) rfl (decide_eq_true (Int.not_lt.mp hc16)) ?_
    exact h
theorem bK272_84 {x2 : Int} {x3 : Int} {x4 : Int} {d5 : Option AV} {d6 : Option AV} {d7 : Option AV} {w : WS} {r : Nat} {o : Ro} (h : (1 ≤ r) ∧ (∃ (v2 : Int) (s1 : Sg), Dc 210 [(.inr (.inr (some 0))), (.inl x4)] w.2.2 (.inl (some (.inl v2))) s1 ∧ (if v2 = (-1) then (if 0 < x4 then (if x3 = 0 then K272_208 x2 x3 (some (.inl x4)) d5 d6 d7 (wS w s1) (r - 1) o else (0 < x4) ∧ (1 ≤ (r - 1)) ∧ (∃ (v7 : Int) (s6 : Sg), Dc 213 [(.inr (.inr (some 0))), (.inl (Int.tmod x2 x4))] (wS w s1).2.2 (.inl (some (.inl v7))) s6 ∧ K272_130 x2 (some (.inl x3)) x4 v7 d6 d7 (if v7 = (-1) then 1 else 0) (wS (wS w s1) s6) ((r - 1) - 1) o)) else K272_208 x2 x3 (some (.inl x4)) d5 d6 d7 (wS w s1) (r - 1) o) else (-2147483648 ≤ (x4 + 1) ∧ (x4 + 1) ≤ 2147483647) ∧ K272_84 x2 x3 (x4 + 1) d5 d6 d7 (wS w s1) (r - 1) o))) : K272_84 x2 x3 x4 d5 d6 d7 w r o := by
  show Lg 272 84 [(some (.inr (.inr (some 0)))), (some (.inr (.inr (some 682)))), (some (.inl x2)), (some (.inl x3)), (some (.inl x4)), d5, d6, d7] [] w r o
  refine zq_aload_n 85 (show zop 272 84 = some (.aload_n 0, 1) by decide +kernel) rfl rfl ?_
  refine zq_iload 87 (show zop 272 85 = some (.iload 4, 2) by decide +kernel) rfl rfl ?_
  obtain ⟨g4, h⟩ := h
  obtain ⟨v2, s1, hD3, h⟩ := h
  refine zq_vi (v := some (.inl v2)) (σ' := s1) (nj := 2) (j := 210) (c := 1) (t := []) (as := [(.inr (.inr (some 0))), (.inl x4)]) 90 [(.inl v2)] (show zop 272 87 = some (.invokevirtual 232, 3) by decide +kernel) (by decide +kernel) rfl (by decide +kernel) rfl rfl rfl rfl rfl rfl (by decide +kernel) (by decide +kernel) (clS_0 rfl) hD3 rfl g4 ?_
  refine zq_iconst 91 (show zop 272 90 = some (.iconst (-1), 1) by decide +kernel) rfl rfl ?_
  by_cases hc11 : v2 = (-1)
  · rw [if_pos hc11] at h
    refine zq_icmpT 100 (show zop 272 91 = some (.if_icmp .eq 9, 3) by decide +kernel) rfl (decide_eq_true hc11) ?_
    refine zq_iload 102 (show zop 272 100 = some (.iload 4, 2) by decide +kernel) rfl rfl ?_
    by_cases hc12 : 0 < x4
    · rw [if_pos hc12] at h
      refine zq_ifF 105 208 (show zop 272 102 = some (.ifCond .le 106, 3) by decide +kernel) rfl rfl (decide_eq_false (Int.not_le.mpr hc12)) ?_
      refine zq_iload_n 106 (show zop 272 105 = some (.iload_n 3, 1) by decide +kernel) rfl rfl ?_
      by_cases hc13 : x3 = 0
      · rw [if_pos hc13] at h
        refine zq_ifT 208 (show zop 272 106 = some (.ifCond .eq 102, 3) by decide +kernel) rfl (decide_eq_true hc13) ?_
        exact h
      · rw [if_neg hc13] at h
        refine zq_ifF 109 208 (show zop 272 106 = some (.ifCond .eq 102, 3) by decide +kernel) rfl rfl (decide_eq_false hc13) ?_
        refine zq_aload_n 110 (show zop 272 109 = some (.aload_n 0, 1) by decide +kernel) rfl rfl ?_
        refine zq_iload_n 111 (show zop 272 110 = some (.iload_n 2, 1) by decide +kernel) rfl rfl ?_
        refine zq_iload 113 (show zop 272 111 = some (.iload 4, 2) by decide +kernel) rfl rfl ?_
        obtain ⟨g5, h⟩ := h
        refine zq_irem 114 (show zop 272 113 = some (.irem, 1) by decide +kernel) rfl g5 ?_
        obtain ⟨g9, h⟩ := h
        obtain ⟨v7, s6, hD8, h⟩ := h
        refine zq_vi (v := some (.inl v7)) (σ' := s6) (nj := 2) (j := 213) (c := 1) (t := []) (as := [(.inr (.inr (some 0))), (.inl (Int.tmod x2 x4))]) 117 [(.inl v7)] (show zop 272 114 = some (.invokevirtual 251, 3) by decide +kernel) (by decide +kernel) rfl (by decide +kernel) rfl rfl rfl rfl rfl rfl (by decide +kernel) (by decide +kernel) (clS_0 rfl) hD8 rfl g9 ?_
        refine zq_istore 119 [(some (.inr (.inr (some 0)))), (some (.inr (.inr (some 682)))), (some (.inl x2)), (some (.inl x3)), (some (.inl x4)), (some (.inl v7)), d6, d7] (show zop 272 117 = some (.istore 5, 2) by decide +kernel) rfl rfl rfl ?_
        refine zq_iload 121 (show zop 272 119 = some (.iload 5, 2) by decide +kernel) rfl rfl ?_
        refine zq_iconst 122 (show zop 272 121 = some (.iconst (-1), 1) by decide +kernel) rfl rfl ?_
        by_cases hc14 : v7 = (-1)
        · refine zq_icmpF 125 129 (show zop 272 122 = some (.if_icmp .ne 7, 3) by decide +kernel) rfl rfl (decide_eq_false (fun h9 => h9 hc14)) ?_
          refine zq_iconst 126 (show zop 272 125 = some (.iconst 1, 1) by decide +kernel) rfl rfl ?_
          refine zq_goto 130 (show zop 272 126 = some (.goto 4, 3) by decide +kernel) rfl ?_
          have h9 := h; simp only [if_pos hc14] at h9; exact h9
        · refine zq_icmpT 129 (show zop 272 122 = some (.if_icmp .ne 7, 3) by decide +kernel) rfl (decide_eq_true hc14) ?_
          refine zq_iconst 130 (show zop 272 129 = some (.iconst 0, 1) by decide +kernel) rfl rfl ?_
          have h9 := h; simp only [if_neg hc14] at h9; exact h9
    · rw [if_neg hc12] at h
      refine zq_ifT 208 (show zop 272 102 = some (.ifCond .le 106, 3) by decide +kernel) rfl (decide_eq_true (Int.not_lt.mp hc12)) ?_
      exact h
  · rw [if_neg hc11] at h
    refine zq_icmpF 94 100 (show zop 272 91 = some (.if_icmp .eq 9, 3) by decide +kernel) rfl rfl (decide_eq_false hc11) ?_
    obtain ⟨g10, h⟩ := h
    refine zq_iinc 97 [(some (.inr (.inr (some 0)))), (some (.inr (.inr (some 682)))), (some (.inl x2)), (some (.inl x3)), (some (.inl (x4 + 1))), d5, d6, d7] (show zop 272 94 = some (.iinc 4 1, 3) by decide +kernel) rfl rfl g10 rfl ?_
    refine zq_goto 84 (show zop 272 97 = some (.goto (-13), 3) by decide +kernel) rfl ?_
    exact h
theorem bK272_77 {x2 : Int} {d3 : Option AV} {x4 : Int} {x5 : Int} {d6 : Option AV} {d7 : Option AV} {y0 : Int} {w : WS} {r : Nat} {o : Ro} (h : (-2147483648 ≤ (x5 + 1) ∧ (x5 + 1) ≤ 2147483647) ∧ K272_22 x2 y0 x4 (x5 + 1) d6 d7 w r o) : K272_77 x2 d3 x4 x5 d6 d7 y0 w r o := by
  show Lg 272 77 [(some (.inr (.inr (some 0)))), (some (.inr (.inr (some 682)))), (some (.inl x2)), d3, (some (.inl x4)), (some (.inl x5)), d6, d7] [(.inl y0)] w r o
  refine zq_istore_n 78 [(some (.inr (.inr (some 0)))), (some (.inr (.inr (some 682)))), (some (.inl x2)), (some (.inl y0)), (some (.inl x4)), (some (.inl x5)), d6, d7] (show zop 272 77 = some (.istore_n 3, 1) by decide +kernel) rfl rfl rfl ?_
  obtain ⟨g1, h⟩ := h
  refine zq_iinc 81 [(some (.inr (.inr (some 0)))), (some (.inr (.inr (some 682)))), (some (.inl x2)), (some (.inl y0)), (some (.inl x4)), (some (.inl (x5 + 1))), d6, d7] (show zop 272 78 = some (.iinc 5 1, 3) by decide +kernel) rfl rfl g1 rfl ?_
  refine zq_goto 22 (show zop 272 81 = some (.goto (-59), 3) by decide +kernel) rfl ?_
  exact h
theorem bK272_76 {x2 : Int} {d3 : Option AV} {x4 : Int} {x5 : Int} {d6 : Option AV} {d7 : Option AV} {w : WS} {r : Nat} {o : Ro} (h : K272_77 x2 d3 x4 x5 d6 d7 0 w r o) : K272_76 x2 d3 x4 x5 d6 d7 w r o := by
  show Lg 272 76 [(some (.inr (.inr (some 0)))), (some (.inr (.inr (some 682)))), (some (.inl x2)), d3, (some (.inl x4)), (some (.inl x5)), d6, d7] [] w r o
  refine zq_iconst 77 (show zop 272 76 = some (.iconst 0, 1) by decide +kernel) rfl rfl ?_
  exact h
theorem bK272_208 {x2 : Int} {x3 : Int} {d4 : Option AV} {d5 : Option AV} {d6 : Option AV} {d7 : Option AV} {w : WS} {r : Nat} {o : Ro} (h : (w.1[0]? = some (0, 12, [])) ∧ (0 ≤ (3 : Int) ∧ (3 : Int) < 12) ∧ (if (w.2.1 682 ((3 : Int)).toNat) ≤ 4 then (if 0 < (Int.tmod x2 3) then K272_221 (some (.inr (.inr (some 0)))) (some (.inr (.inr (some 682)))) (some (.inl x2)) x3 d4 d5 d6 d7 w r o else (1 ≤ r) ∧ (∃ (v5 : Int) (s4 : Sg), Dc 212 [(.inr (.inr (some 0)))] w.2.2 (.inl (some (.inl v5))) s4 ∧ K272_229 (some (.inr (.inr (some 0)))) (some (.inr (.inr (some 682)))) (some (.inl x2)) x3 d4 d5 d6 d7 v5 (wS w s4) (r - 1) o)) else K272_221 (some (.inr (.inr (some 0)))) (some (.inr (.inr (some 682)))) (some (.inl x2)) x3 d4 d5 d6 d7 w r o)) : K272_208 x2 x3 d4 d5 d6 d7 w r o := by
  show Lg 272 208 [(some (.inr (.inr (some 0)))), (some (.inr (.inr (some 682)))), (some (.inl x2)), (some (.inl x3)), d4, d5, d6, d7] [] w r o
  refine zq_aload_n 209 (show zop 272 208 = some (.aload_n 1, 1) by decide +kernel) rfl rfl ?_
  refine zq_iconst 210 (show zop 272 209 = some (.iconst 3, 1) by decide +kernel) rfl rfl ?_
  obtain ⟨g3, h⟩ := h
  obtain ⟨g1, h⟩ := h
  refine zq_iaload 211 12 (show zop 272 210 = some (.iaload, 1) by decide +kernel) rfl (by decide) g3 g1 ?_
  refine zq_iconst 212 (show zop 272 211 = some (.iconst 4, 1) by decide +kernel) rfl rfl ?_
  by_cases hc8 : (w.2.1 682 ((3 : Int)).toNat) ≤ 4
  · rw [if_pos hc8] at h
    refine zq_icmpF 215 221 (show zop 272 212 = some (.if_icmp .gt 9, 3) by decide +kernel) rfl rfl (decide_eq_false (Int.not_lt.mpr hc8)) ?_
    refine zq_iload_n 216 (show zop 272 215 = some (.iload_n 2, 1) by decide +kernel) rfl rfl ?_
    refine zq_iconst 217 (show zop 272 216 = some (.iconst 3, 1) by decide +kernel) rfl rfl ?_
    refine zq_irem 218 (show zop 272 217 = some (.irem, 1) by decide +kernel) rfl (by decide) ?_
    by_cases hc9 : 0 < (Int.tmod x2 3)
    · rw [if_pos hc9] at h
      refine zq_ifF 221 225 (show zop 272 218 = some (.ifCond .le 7, 3) by decide +kernel) rfl rfl (decide_eq_false (Int.not_le.mpr hc9)) ?_
      exact h
    · rw [if_neg hc9] at h
      refine zq_ifT 225 (show zop 272 218 = some (.ifCond .le 7, 3) by decide +kernel) rfl (decide_eq_true (Int.not_lt.mp hc9)) ?_
      refine zq_aload_n 226 (show zop 272 225 = some (.aload_n 0, 1) by decide +kernel) rfl rfl ?_
      obtain ⟨g7, h⟩ := h
      obtain ⟨v5, s4, hD6, h⟩ := h
      refine zq_vi (v := some (.inl v5)) (σ' := s4) (nj := 1) (j := 212) (c := 1) (t := []) (as := [(.inr (.inr (some 0)))]) 229 [(.inl v5)] (show zop 272 226 = some (.invokevirtual 257, 3) by decide +kernel) (by decide +kernel) rfl (by decide +kernel) rfl rfl rfl rfl rfl rfl (by decide +kernel) (by decide +kernel) (clS_0 rfl) hD6 rfl g7 ?_
      exact h
  · rw [if_neg hc8] at h
    refine zq_icmpT 221 (show zop 272 212 = some (.if_icmp .gt 9, 3) by decide +kernel) rfl (decide_eq_true (Int.not_le.mp hc8)) ?_
    exact h
theorem bK272_130 {x2 : Int} {d3 : Option AV} {x4 : Int} {x5 : Int} {d6 : Option AV} {d7 : Option AV} {y0 : Int} {w : WS} {r : Nat} {o : Ro} (h : K272_135 x2 d3 x4 x5 y0 0 w r o) : K272_130 x2 d3 x4 x5 d6 d7 y0 w r o := by
  show Lg 272 130 [(some (.inr (.inr (some 0)))), (some (.inr (.inr (some 682)))), (some (.inl x2)), d3, (some (.inl x4)), (some (.inl x5)), d6, d7] [(.inl y0)] w r o
  refine zq_istore 132 [(some (.inr (.inr (some 0)))), (some (.inr (.inr (some 682)))), (some (.inl x2)), d3, (some (.inl x4)), (some (.inl x5)), (some (.inl y0)), d7] (show zop 272 130 = some (.istore 6, 2) by decide +kernel) rfl rfl rfl ?_
  refine zq_iconst 133 (show zop 272 132 = some (.iconst 0, 1) by decide +kernel) rfl rfl ?_
  refine zq_istore 135 [(some (.inr (.inr (some 0)))), (some (.inr (.inr (some 682)))), (some (.inl x2)), d3, (some (.inl x4)), (some (.inl x5)), (some (.inl y0)), (some (.inl 0))] (show zop 272 133 = some (.istore 7, 2) by decide +kernel) rfl rfl rfl ?_
  exact h
theorem bK272_221 {d0 : Option AV} {d1 : Option AV} {d2 : Option AV} {x3 : Int} {d4 : Option AV} {d5 : Option AV} {d6 : Option AV} {d7 : Option AV} {w : WS} {r : Nat} {o : Ro} (h : K272_229 d0 d1 d2 x3 d4 d5 d6 d7 1 w r o) : K272_221 d0 d1 d2 x3 d4 d5 d6 d7 w r o := by
  show Lg 272 221 [d0, d1, d2, (some (.inl x3)), d4, d5, d6, d7] [] w r o
  refine zq_iconst 222 (show zop 272 221 = some (.iconst 1, 1) by decide +kernel) rfl rfl ?_
  refine zq_goto 229 (show zop 272 222 = some (.goto 7, 3) by decide +kernel) rfl ?_
  exact h
theorem bK272_229 {d0 : Option AV} {d1 : Option AV} {d2 : Option AV} {x3 : Int} {d4 : Option AV} {d5 : Option AV} {d6 : Option AV} {d7 : Option AV} {y0 : Int} {w : WS} {r : Nat} {o : Ro} (h : (if x3 = 0 then K272_252 d0 d1 d2 (some (.inl x3)) d4 (some (.inl y0)) d6 d7 w r o else (if 1 ≤ y0 then (if y0 ≤ 24 then K272_253 d0 d1 d2 (some (.inl x3)) d4 (some (.inl y0)) d6 d7 1 w r o else K272_252 d0 d1 d2 (some (.inl x3)) d4 (some (.inl y0)) d6 d7 w r o) else K272_252 d0 d1 d2 (some (.inl x3)) d4 (some (.inl y0)) d6 d7 w r o))) : K272_229 d0 d1 d2 x3 d4 d5 d6 d7 y0 w r o := by
  show Lg 272 229 [d0, d1, d2, (some (.inl x3)), d4, d5, d6, d7] [(.inl y0)] w r o
  refine zq_istore 231 [d0, d1, d2, (some (.inl x3)), d4, (some (.inl y0)), d6, d7] (show zop 272 229 = some (.istore 5, 2) by decide +kernel) rfl rfl rfl ?_
  refine zq_iload_n 232 (show zop 272 231 = some (.iload_n 3, 1) by decide +kernel) rfl rfl ?_
  by_cases hc1 : x3 = 0
  · rw [if_pos hc1] at h
    refine zq_ifT 252 (show zop 272 232 = some (.ifCond .eq 20, 3) by decide +kernel) rfl (decide_eq_true hc1) ?_
    exact h
  · rw [if_neg hc1] at h
    refine zq_ifF 235 252 (show zop 272 232 = some (.ifCond .eq 20, 3) by decide +kernel) rfl rfl (decide_eq_false hc1) ?_
    refine zq_iload 237 (show zop 272 235 = some (.iload 5, 2) by decide +kernel) rfl rfl ?_
    refine zq_iconst 238 (show zop 272 237 = some (.iconst 1, 1) by decide +kernel) rfl rfl ?_
    by_cases hc2 : 1 ≤ y0
    · rw [if_pos hc2] at h
      refine zq_icmpF 241 252 (show zop 272 238 = some (.if_icmp .lt 14, 3) by decide +kernel) rfl rfl (decide_eq_false (Int.not_lt.mpr hc2)) ?_
      refine zq_iload 243 (show zop 272 241 = some (.iload 5, 2) by decide +kernel) rfl rfl ?_
      refine zq_bipush 245 (show zop 272 243 = some (.bipush 24, 2) by decide +kernel) rfl (by decide) ?_
      by_cases hc3 : y0 ≤ 24
      · rw [if_pos hc3] at h
        refine zq_icmpF 248 252 (show zop 272 245 = some (.if_icmp .gt 7, 3) by decide +kernel) rfl rfl (decide_eq_false (Int.not_lt.mpr hc3)) ?_
        refine zq_iconst 249 (show zop 272 248 = some (.iconst 1, 1) by decide +kernel) rfl rfl ?_
        refine zq_goto 253 (show zop 272 249 = some (.goto 4, 3) by decide +kernel) rfl ?_
        exact h
      · rw [if_neg hc3] at h
        refine zq_icmpT 252 (show zop 272 245 = some (.if_icmp .gt 7, 3) by decide +kernel) rfl (decide_eq_true (Int.not_le.mp hc3)) ?_
        exact h
    · rw [if_neg hc2] at h
      refine zq_icmpT 252 (show zop 272 238 = some (.if_icmp .lt 14, 3) by decide +kernel) rfl (decide_eq_true (Int.not_le.mp hc2)) ?_
      exact h
theorem bK272_135 {x2 : Int} {d3 : Option AV} {x4 : Int} {x5 : Int} {x6 : Int} {x7 : Int} {w : WS} {r : Nat} {o : Ro} (h : (w.1[0]? = some (0, 12, [])) ∧ (0 ≤ (3 : Int) ∧ (3 : Int) < 12) ∧ (if x7 < (w.2.1 682 ((3 : Int)).toNat) then (if x6 = 0 then (-2147483648 ≤ (6 + x7) ∧ (6 + x7) ≤ 2147483647) ∧ (w.1[0]? = some (0, 12, [])) ∧ (0 ≤ (6 + x7) ∧ (6 + x7) < 12) ∧ (if (w.2.1 682 ((6 + x7)).toNat) = x5 then K272_160 x2 d3 x4 x5 (some (.inl x6)) x7 w r o else K272_165 x2 d3 x4 x5 (some (.inl x6)) x7 0 w r o) else K272_160 x2 d3 x4 x5 (some (.inl x6)) x7 w r o) else (if x6 = 0 then K272_206 x2 d3 (some (.inl x4)) (some (.inl x5)) (some (.inl x6)) (some (.inl x7)) w r o else (0 < x4) ∧ (1 ≤ r) ∧ (∃ (v10 : Int) (s9 : Sg), Dc 214 [(.inr (.inr (some 0))), (.inl (Int.tmod x2 x4))] w.2.2 (.inl (some (.inl v10))) s9 ∧ (if 0 ≤ v10 then (0 < x4) ∧ (1 ≤ (r - 1)) ∧ (∃ (v15 : Int) (s14 : Sg), Dc 214 [(.inr (.inr (some 0))), (.inl (Int.tmod x2 x4))] (wS w s9).2.2 (.inl (some (.inl v15))) s14 ∧ (if v15 < 16 then K272_207 x2 d3 (some (.inl x4)) (some (.inl x5)) (some (.inl x6)) (some (.inl x7)) 1 (wS (wS w s9) s14) ((r - 1) - 1) o else K272_206 x2 d3 (some (.inl x4)) (some (.inl x5)) (some (.inl x6)) (some (.inl x7)) (wS (wS w s9) s14) ((r - 1) - 1) o)) else K272_206 x2 d3 (some (.inl x4)) (some (.inl x5)) (some (.inl x6)) (some (.inl x7)) (wS w s9) (r - 1) o))))) : K272_135 x2 d3 x4 x5 x6 x7 w r o := by
  show Lg 272 135 [(some (.inr (.inr (some 0)))), (some (.inr (.inr (some 682)))), (some (.inl x2)), d3, (some (.inl x4)), (some (.inl x5)), (some (.inl x6)), (some (.inl x7))] [] w r o
  refine zq_iload 137 (show zop 272 135 = some (.iload 7, 2) by decide +kernel) rfl rfl ?_
  refine zq_aload_n 138 (show zop 272 137 = some (.aload_n 1, 1) by decide +kernel) rfl rfl ?_
  refine zq_iconst 139 (show zop 272 138 = some (.iconst 3, 1) by decide +kernel) rfl rfl ?_
  obtain ⟨g3, h⟩ := h
  obtain ⟨g1, h⟩ := h
  refine zq_iaload 140 12 (show zop 272 139 = some (.iaload, 1) by decide +kernel) rfl (by decide) g3 g1 ?_
  by_cases hc18 : x7 < (w.2.1 682 ((3 : Int)).toNat)
  · rw [if_pos hc18] at h
    refine zq_icmpF 143 173 (show zop 272 140 = some (.if_icmp .ge 33, 3) by decide +kernel) rfl rfl (decide_eq_false (Int.not_le.mpr hc18)) ?_
    refine zq_iload 145 (show zop 272 143 = some (.iload 6, 2) by decide +kernel) rfl rfl ?_
    by_cases hc19 : x6 = 0
    · rw [if_pos hc19] at h
      refine zq_ifF 148 160 (show zop 272 145 = some (.ifCond .ne 15, 3) by decide +kernel) rfl rfl (decide_eq_false (fun h9 => h9 hc19)) ?_
      refine zq_aload_n 149 (show zop 272 148 = some (.aload_n 1, 1) by decide +kernel) rfl rfl ?_
      refine zq_bipush 151 (show zop 272 149 = some (.bipush 6, 2) by decide +kernel) rfl (by decide) ?_
      refine zq_iload 153 (show zop 272 151 = some (.iload 7, 2) by decide +kernel) rfl rfl ?_
      obtain ⟨g4, h⟩ := h
      refine zq_iadd 154 (show zop 272 153 = some (.iadd, 1) by decide +kernel) rfl g4 ?_
      obtain ⟨g7, h⟩ := h
      obtain ⟨g5, h⟩ := h
      refine zq_iaload 155 12 (show zop 272 154 = some (.iaload, 1) by decide +kernel) rfl (by decide) g7 g5 ?_
      refine zq_iload 157 (show zop 272 155 = some (.iload 5, 2) by decide +kernel) rfl rfl ?_
      by_cases hc20 : (w.2.1 682 ((6 + x7)).toNat) = x5
      · rw [if_pos hc20] at h
        refine zq_icmpF 160 164 (show zop 272 157 = some (.if_icmp .ne 7, 3) by decide +kernel) rfl rfl (decide_eq_false (fun h9 => h9 hc20)) ?_
        exact h
      · rw [if_neg hc20] at h
        refine zq_icmpT 164 (show zop 272 157 = some (.if_icmp .ne 7, 3) by decide +kernel) rfl (decide_eq_true hc20) ?_
        refine zq_iconst 165 (show zop 272 164 = some (.iconst 0, 1) by decide +kernel) rfl rfl ?_
        exact h
    · rw [if_neg hc19] at h
      refine zq_ifT 160 (show zop 272 145 = some (.ifCond .ne 15, 3) by decide +kernel) rfl (decide_eq_true hc19) ?_
      exact h
  · rw [if_neg hc18] at h
    refine zq_icmpT 173 (show zop 272 140 = some (.if_icmp .ge 33, 3) by decide +kernel) rfl (decide_eq_true (Int.not_lt.mp hc18)) ?_
    refine zq_iload 175 (show zop 272 173 = some (.iload 6, 2) by decide +kernel) rfl rfl ?_
    by_cases hc21 : x6 = 0
    · rw [if_pos hc21] at h
      refine zq_ifT 206 (show zop 272 175 = some (.ifCond .eq 31, 3) by decide +kernel) rfl (decide_eq_true hc21) ?_
      exact h
    · rw [if_neg hc21] at h
      refine zq_ifF 178 206 (show zop 272 175 = some (.ifCond .eq 31, 3) by decide +kernel) rfl rfl (decide_eq_false hc21) ?_
      refine zq_aload_n 179 (show zop 272 178 = some (.aload_n 0, 1) by decide +kernel) rfl rfl ?_
      refine zq_iload_n 180 (show zop 272 179 = some (.iload_n 2, 1) by decide +kernel) rfl rfl ?_
      refine zq_iload 182 (show zop 272 180 = some (.iload 4, 2) by decide +kernel) rfl rfl ?_
      obtain ⟨g8, h⟩ := h
      refine zq_irem 183 (show zop 272 182 = some (.irem, 1) by decide +kernel) rfl g8 ?_
      obtain ⟨g12, h⟩ := h
      obtain ⟨v10, s9, hD11, h⟩ := h
      refine zq_vi (v := some (.inl v10)) (σ' := s9) (nj := 2) (j := 214) (c := 1) (t := []) (as := [(.inr (.inr (some 0))), (.inl (Int.tmod x2 x4))]) 186 [(.inl v10)] (show zop 272 183 = some (.invokevirtual 254, 3) by decide +kernel) (by decide +kernel) rfl (by decide +kernel) rfl rfl rfl rfl rfl rfl (by decide +kernel) (by decide +kernel) (clS_0 rfl) hD11 rfl g12 ?_
      by_cases hc22 : 0 ≤ v10
      · rw [if_pos hc22] at h
        refine zq_ifF 189 206 (show zop 272 186 = some (.ifCond .lt 20, 3) by decide +kernel) rfl rfl (decide_eq_false (Int.not_lt.mpr hc22)) ?_
        refine zq_aload_n 190 (show zop 272 189 = some (.aload_n 0, 1) by decide +kernel) rfl rfl ?_
        refine zq_iload_n 191 (show zop 272 190 = some (.iload_n 2, 1) by decide +kernel) rfl rfl ?_
        refine zq_iload 193 (show zop 272 191 = some (.iload 4, 2) by decide +kernel) rfl rfl ?_
        obtain ⟨g13, h⟩ := h
        refine zq_irem 194 (show zop 272 193 = some (.irem, 1) by decide +kernel) rfl g13 ?_
        obtain ⟨g17, h⟩ := h
        obtain ⟨v15, s14, hD16, h⟩ := h
        refine zq_vi (v := some (.inl v15)) (σ' := s14) (nj := 2) (j := 214) (c := 1) (t := []) (as := [(.inr (.inr (some 0))), (.inl (Int.tmod x2 x4))]) 197 [(.inl v15)] (show zop 272 194 = some (.invokevirtual 254, 3) by decide +kernel) (by decide +kernel) rfl (by decide +kernel) rfl rfl rfl rfl rfl rfl (by decide +kernel) (by decide +kernel) (clS_0 rfl) hD16 rfl g17 ?_
        refine zq_bipush 199 (show zop 272 197 = some (.bipush 16, 2) by decide +kernel) rfl (by decide) ?_
        by_cases hc23 : v15 < 16
        · rw [if_pos hc23] at h
          refine zq_icmpF 202 206 (show zop 272 199 = some (.if_icmp .ge 7, 3) by decide +kernel) rfl rfl (decide_eq_false (Int.not_le.mpr hc23)) ?_
          refine zq_iconst 203 (show zop 272 202 = some (.iconst 1, 1) by decide +kernel) rfl rfl ?_
          refine zq_goto 207 (show zop 272 203 = some (.goto 4, 3) by decide +kernel) rfl ?_
          exact h
        · rw [if_neg hc23] at h
          refine zq_icmpT 206 (show zop 272 199 = some (.if_icmp .ge 7, 3) by decide +kernel) rfl (decide_eq_true (Int.not_lt.mp hc23)) ?_
          exact h
      · rw [if_neg hc22] at h
        refine zq_ifT 206 (show zop 272 186 = some (.ifCond .lt 20, 3) by decide +kernel) rfl (decide_eq_true (Int.not_le.mp hc22)) ?_
        exact h
theorem bK272_252 {d0 : Option AV} {d1 : Option AV} {d2 : Option AV} {d3 : Option AV} {d4 : Option AV} {d5 : Option AV} {d6 : Option AV} {d7 : Option AV} {w : WS} {r : Nat} {o : Ro} (h : K272_253 d0 d1 d2 d3 d4 d5 d6 d7 0 w r o) : K272_252 d0 d1 d2 d3 d4 d5 d6 d7 w r o := by
  show Lg 272 252 [d0, d1, d2, d3, d4, d5, d6, d7] [] w r o
  refine zq_iconst 253 (show zop 272 252 = some (.iconst 0, 1) by decide +kernel) rfl rfl ?_
  exact h
theorem bK272_253 {d0 : Option AV} {d1 : Option AV} {d2 : Option AV} {d3 : Option AV} {d4 : Option AV} {d5 : Option AV} {d6 : Option AV} {d7 : Option AV} {y0 : Int} {w : WS} {r : Nat} {o : Ro} (h : (y0 = 0 ∨ y0 = 1) ∧ o = (.inl (some (.inl y0)), w)) : K272_253 d0 d1 d2 d3 d4 d5 d6 d7 y0 w r o := by
  show Lg 272 253 [d0, d1, d2, d3, d4, d5, d6, d7] [(.inl y0)] w r o
  obtain ⟨g1, h⟩ := h
  exact (zq_zret (show zop 272 253 = some (.ireturn, 1) by decide +kernel) (by decide +kernel) g1 h)
theorem bK272_160 {x2 : Int} {d3 : Option AV} {x4 : Int} {x5 : Int} {d6 : Option AV} {x7 : Int} {w : WS} {r : Nat} {o : Ro} (h : K272_165 x2 d3 x4 x5 d6 x7 1 w r o) : K272_160 x2 d3 x4 x5 d6 x7 w r o := by
  show Lg 272 160 [(some (.inr (.inr (some 0)))), (some (.inr (.inr (some 682)))), (some (.inl x2)), d3, (some (.inl x4)), (some (.inl x5)), d6, (some (.inl x7))] [] w r o
  refine zq_iconst 161 (show zop 272 160 = some (.iconst 1, 1) by decide +kernel) rfl rfl ?_
  refine zq_goto 165 (show zop 272 161 = some (.goto 4, 3) by decide +kernel) rfl ?_
  exact h
theorem bK272_165 {x2 : Int} {d3 : Option AV} {x4 : Int} {x5 : Int} {d6 : Option AV} {x7 : Int} {y0 : Int} {w : WS} {r : Nat} {o : Ro} (h : (-2147483648 ≤ (x7 + 1) ∧ (x7 + 1) ≤ 2147483647) ∧ K272_135 x2 d3 x4 x5 y0 (x7 + 1) w r o) : K272_165 x2 d3 x4 x5 d6 x7 y0 w r o := by
  show Lg 272 165 [(some (.inr (.inr (some 0)))), (some (.inr (.inr (some 682)))), (some (.inl x2)), d3, (some (.inl x4)), (some (.inl x5)), d6, (some (.inl x7))] [(.inl y0)] w r o
  refine zq_istore 167 [(some (.inr (.inr (some 0)))), (some (.inr (.inr (some 682)))), (some (.inl x2)), d3, (some (.inl x4)), (some (.inl x5)), (some (.inl y0)), (some (.inl x7))] (show zop 272 165 = some (.istore 6, 2) by decide +kernel) rfl rfl rfl ?_
  obtain ⟨g1, h⟩ := h
  refine zq_iinc 170 [(some (.inr (.inr (some 0)))), (some (.inr (.inr (some 682)))), (some (.inl x2)), d3, (some (.inl x4)), (some (.inl x5)), (some (.inl y0)), (some (.inl (x7 + 1)))] (show zop 272 167 = some (.iinc 7 1, 3) by decide +kernel) rfl rfl g1 rfl ?_
  refine zq_goto 135 (show zop 272 170 = some (.goto (-35), 3) by decide +kernel) rfl ?_
  exact h
theorem bK272_206 {x2 : Int} {d3 : Option AV} {d4 : Option AV} {d5 : Option AV} {d6 : Option AV} {d7 : Option AV} {w : WS} {r : Nat} {o : Ro} (h : K272_207 x2 d3 d4 d5 d6 d7 0 w r o) : K272_206 x2 d3 d4 d5 d6 d7 w r o := by
  show Lg 272 206 [(some (.inr (.inr (some 0)))), (some (.inr (.inr (some 682)))), (some (.inl x2)), d3, d4, d5, d6, d7] [] w r o
  refine zq_iconst 207 (show zop 272 206 = some (.iconst 0, 1) by decide +kernel) rfl rfl ?_
  exact h
theorem bK272_207 {x2 : Int} {d3 : Option AV} {d4 : Option AV} {d5 : Option AV} {d6 : Option AV} {d7 : Option AV} {y0 : Int} {w : WS} {r : Nat} {o : Ro} (h : K272_208 x2 y0 d4 d5 d6 d7 w r o) : K272_207 x2 d3 d4 d5 d6 d7 y0 w r o := by
  show Lg 272 207 [(some (.inr (.inr (some 0)))), (some (.inr (.inr (some 682)))), (some (.inl x2)), d3, d4, d5, d6, d7] [(.inl y0)] w r o
  refine zq_istore_n 208 [(some (.inr (.inr (some 0)))), (some (.inr (.inr (some 682)))), (some (.inl x2)), (some (.inl y0)), d4, d5, d6, d7] (show zop 272 207 = some (.istore_n 3, 1) by decide +kernel) rfl rfl rfl ?_
  exact h
/-- PatchBenchLaw.isStack (LPatchBench;[II)Z -/
theorem lb272 {x2 : Int} {w : WS} {o : Ro} (h : (0 ≤ 100) ∧ (∃ (v2 : Int) (s1 : Sg), Dc 208 [(.inr (.inr (some 0)))] w.2.2 (.inl (some (.inl v2))) s1 ∧ ((wS w s1).1[0]? = some (0, 12, [])) ∧ (0 ≤ (3 : Int) ∧ (3 : Int) < 12) ∧ K272_15 x2 none none none none none (if v2 = ((wS w s1).2.1 682 ((3 : Int)).toNat) then 1 else 0) (wS w s1) 100 o)) : Lx 272 [(.inr (.inr (some 0))), (.inr (.inr (some 682))), (.inl x2)] w o := by
  refine Lx_of (l := 8) (r := 100) (by decide +kernel) (by decide +kernel) ?_
  show Lg 272 0 [(some (.inr (.inr (some 0)))), (some (.inr (.inr (some 682)))), (some (.inl x2)), none, none, none, none, none] [] w 100 o
  refine zq_aload_n 1 (show zop 272 0 = some (.aload_n 0, 1) by decide +kernel) rfl rfl ?_
  obtain ⟨g4, h⟩ := h
  obtain ⟨v2, s1, hD3, h⟩ := h
  refine zq_vi (v := some (.inl v2)) (σ' := s1) (nj := 1) (j := 208) (c := 0) (t := []) (as := [(.inr (.inr (some 0)))]) 4 [(.inl v2)] (show zop 272 1 = some (.invokevirtual 211, 3) by decide +kernel) (by decide +kernel) rfl (by decide +kernel) rfl rfl rfl rfl rfl rfl (by decide +kernel) (by decide +kernel) (clS_0 rfl) hD3 rfl g4 ?_
  refine zq_aload_n 5 (show zop 272 4 = some (.aload_n 1, 1) by decide +kernel) rfl rfl ?_
  refine zq_iconst 6 (show zop 272 5 = some (.iconst 3, 1) by decide +kernel) rfl rfl ?_
  obtain ⟨g7, h⟩ := h
  obtain ⟨g5, h⟩ := h
  refine zq_iaload 7 12 (show zop 272 6 = some (.iaload, 1) by decide +kernel) rfl (by decide) g7 g5 ?_
  by_cases hc8 : v2 = ((wS w s1).2.1 682 ((3 : Int)).toNat)
  · refine zq_icmpF 10 14 (show zop 272 7 = some (.if_icmp .ne 7, 3) by decide +kernel) rfl rfl (decide_eq_false (fun h9 => h9 hc8)) ?_
    refine zq_iconst 11 (show zop 272 10 = some (.iconst 1, 1) by decide +kernel) rfl rfl ?_
    refine zq_goto 15 (show zop 272 11 = some (.goto 4, 3) by decide +kernel) rfl ?_
    have h9 := h; simp only [if_pos hc8] at h9; exact h9
  · refine zq_icmpT 14 (show zop 272 7 = some (.if_icmp .ne 7, 3) by decide +kernel) rfl (decide_eq_true hc8) ?_
    refine zq_iconst 15 (show zop 272 14 = some (.iconst 0, 1) by decide +kernel) rfl rfl ?_
    have h9 := h; simp only [if_neg hc8] at h9; exact h9
def K273_21 (d1 : Option AV) (d2 : Option AV) (x3 : Int) (x4 : Int) (d5 : Option AV) (d6 : Option AV) (d7 : Option AV) (d8 : Option AV) (d9 : Option AV) (d10 : Option AV) (w : WS) (r : Nat) (o : Ro) : Prop := Lg 273 21 [(some (.inr (.inr (some 0)))), d1, d2, (some (.inl x3)), (some (.inl x4)), d5, d6, d7, d8, d9, d10] [] w r o
def K273_138 (d1 : Option AV) (d2 : Option AV) (x3 : Int) (x4 : Int) (x5 : Int) (d6 : Option AV) (d7 : Option AV) (d8 : Option AV) (d9 : Option AV) (d10 : Option AV) (y0 : Int) (w : WS) (r : Nat) (o : Ro) : Prop := Lg 273 138 [(some (.inr (.inr (some 0)))), d1, d2, (some (.inl x3)), (some (.inl x4)), (some (.inl x5)), d6, d7, d8, d9, d10] [(.inl y0)] w r o
def K273_73 (d1 : Option AV) (d2 : Option AV) (d3 : Option AV) (d4 : Option AV) (x5 : Int) (d6 : Option AV) (d7 : Option AV) (d8 : Option AV) (d9 : Option AV) (d10 : Option AV) (y0 : Int) (y1 : Int) (w : WS) (r : Nat) (o : Ro) : Prop := Lg 273 73 [(some (.inr (.inr (some 0)))), d1, d2, d3, d4, (some (.inl x5)), d6, d7, d8, d9, d10] [(.inl y1), (.inl y0)] w r o
def K273_146 (d1 : Option AV) (d2 : Option AV) (x3 : Int) (x4 : Int) (x5 : Int) (x6 : Int) (x7 : Int) (x8 : Int) (d9 : Option AV) (d10 : Option AV) (w : WS) (r : Nat) (o : Ro) : Prop := Lg 273 146 [(some (.inr (.inr (some 0)))), d1, d2, (some (.inl x3)), (some (.inl x4)), (some (.inl x5)), (some (.inl x6)), (some (.inl x7)), (some (.inl x8)), d9, d10] [] w r o
def K273_81 (d1 : Option AV) (d2 : Option AV) (d3 : Option AV) (d4 : Option AV) (x5 : Int) (d6 : Option AV) (d7 : Option AV) (d8 : Option AV) (d9 : Option AV) (d10 : Option AV) (y0 : Int) (w : WS) (r : Nat) (o : Ro) : Prop := Lg 273 81 [(some (.inr (.inr (some 0)))), d1, d2, d3, d4, (some (.inl x5)), d6, d7, d8, d9, d10] [(.inl y0)] w r o
def K273_210 (d1 : Option AV) (d2 : Option AV) (x3 : Int) (x4 : Int) (x5 : Int) (d6 : Option AV) (x7 : Int) (x8 : Int) (x9 : Int) (d10 : Option AV) (w : WS) (r : Nat) (o : Ro) : Prop := Lg 273 210 [(some (.inr (.inr (some 0)))), d1, d2, (some (.inl x3)), (some (.inl x4)), (some (.inl x5)), d6, (some (.inl x7)), (some (.inl x8)), (some (.inl x9)), d10] [] w r o
def K273_206 (d1 : Option AV) (d2 : Option AV) (x3 : Int) (x4 : Int) (x5 : Int) (d6 : Option AV) (x7 : Int) (x8 : Int) (x9 : Int) (d10 : Option AV) (w : WS) (r : Nat) (o : Ro) : Prop := Lg 273 206 [(some (.inr (.inr (some 0)))), d1, d2, (some (.inl x3)), (some (.inl x4)), (some (.inl x5)), d6, (some (.inl x7)), (some (.inl x8)), (some (.inl x9)), d10] [] w r o
def K273_272 (d1 : Option AV) (d2 : Option AV) (d3 : Option AV) (d4 : Option AV) (x5 : Int) (d6 : Option AV) (d7 : Option AV) (x8 : Int) (d9 : Option AV) (d10 : Option AV) (w : WS) (r : Nat) (o : Ro) : Prop := Lg 273 272 [(some (.inr (.inr (some 0)))), d1, d2, d3, d4, (some (.inl x5)), d6, d7, (some (.inl x8)), d9, d10] [] w r o
def K273_273 (d1 : Option AV) (d2 : Option AV) (d3 : Option AV) (d4 : Option AV) (x5 : Int) (d6 : Option AV) (d7 : Option AV) (x8 : Int) (d9 : Option AV) (d10 : Option AV) (y0 : Int) (w : WS) (r : Nat) (o : Ro) : Prop := Lg 273 273 [(some (.inr (.inr (some 0)))), d1, d2, d3, d4, (some (.inl x5)), d6, d7, (some (.inl x8)), d9, d10] [(.inl y0)] w r o
def K273_105 (d0 : Option AV) (d1 : Option AV) (d2 : Option AV) (d3 : Option AV) (d4 : Option AV) (d5 : Option AV) (d6 : Option AV) (d7 : Option AV) (d8 : Option AV) (d9 : Option AV) (d10 : Option AV) (w : WS) (r : Nat) (o : Ro) : Prop := Lg 273 105 [d0, d1, d2, d3, d4, d5, d6, d7, d8, d9, d10] [] w r o
def K273_101 (d0 : Option AV) (d1 : Option AV) (d2 : Option AV) (d3 : Option AV) (d4 : Option AV) (d5 : Option AV) (d6 : Option AV) (d7 : Option AV) (d8 : Option AV) (d9 : Option AV) (d10 : Option AV) (w : WS) (r : Nat) (o : Ro) : Prop := Lg 273 101 [d0, d1, d2, d3, d4, d5, d6, d7, d8, d9, d10] [] w r o
def K273_211 (d1 : Option AV) (d2 : Option AV) (x3 : Int) (x4 : Int) (x5 : Int) (d6 : Option AV) (x7 : Int) (x8 : Int) (x9 : Int) (d10 : Option AV) (y0 : Int) (w : WS) (r : Nat) (o : Ro) : Prop := Lg 273 211 [(some (.inr (.inr (some 0)))), d1, d2, (some (.inl x3)), (some (.inl x4)), (some (.inl x5)), d6, (some (.inl x7)), (some (.inl x8)), (some (.inl x9)), d10] [(.inl y0)] w r o
def K273_278 (d1 : Option AV) (d2 : Option AV) (d3 : Option AV) (d4 : Option AV) (x5 : Int) (x6 : Int) (d7 : Option AV) (x8 : Int) (x9 : Int) (d10 : Option AV) (w : WS) (r : Nat) (o : Ro) : Prop := Lg 273 278 [(some (.inr (.inr (some 0)))), d1, d2, d3, d4, (some (.inl x5)), (some (.inl x6)), d7, (some (.inl x8)), (some (.inl x9)), d10] [] w r o
def K273_106 (d0 : Option AV) (d1 : Option AV) (d2 : Option AV) (d3 : Option AV) (d4 : Option AV) (d5 : Option AV) (d6 : Option AV) (d7 : Option AV) (d8 : Option AV) (d9 : Option AV) (d10 : Option AV) (y0 : Int) (w : WS) (r : Nat) (o : Ro) : Prop := Lg 273 106 [d0, d1, d2, d3, d4, d5, d6, d7, d8, d9, d10] [(.inl y0)] w r o
def K273_229 (d1 : Option AV) (d2 : Option AV) (x3 : Int) (x4 : Int) (x5 : Int) (x6 : Int) (d7 : Option AV) (x8 : Int) (d9 : Option AV) (d10 : Option AV) (y0 : Int) (y1 : Int) (w : WS) (r : Nat) (o : Ro) : Prop := Lg 273 229 [(some (.inr (.inr (some 0)))), d1, d2, (some (.inl x3)), (some (.inl x4)), (some (.inl x5)), (some (.inl x6)), d7, (some (.inl x8)), d9, d10] [(.inl y1), (.inl y0)] w r o
def K273_344 (d0 : Option AV) (d1 : Option AV) (d2 : Option AV) (d3 : Option AV) (d4 : Option AV) (d5 : Option AV) (x6 : Int) (d7 : Option AV) (d8 : Option AV) (d9 : Option AV) (d10 : Option AV) (w : WS) (r : Nat) (o : Ro) : Prop := Lg 273 344 [d0, d1, d2, d3, d4, d5, (some (.inl x6)), d7, d8, d9, d10] [] w r o
def K273_328 (d1 : Option AV) (d2 : Option AV) (d3 : Option AV) (d4 : Option AV) (x5 : Int) (d6 : Option AV) (d7 : Option AV) (x8 : Int) (x9 : Int) (d10 : Option AV) (y0 : Int) (y1 : Int) (w : WS) (r : Nat) (o : Ro) : Prop := Lg 273 328 [(some (.inr (.inr (some 0)))), d1, d2, d3, d4, (some (.inl x5)), d6, d7, (some (.inl x8)), (some (.inl x9)), d10] [(.inl y1), (.inl y0)] w r o
def K273_336 (d1 : Option AV) (d2 : Option AV) (d3 : Option AV) (d4 : Option AV) (x5 : Int) (d6 : Option AV) (d7 : Option AV) (x8 : Int) (x9 : Int) (d10 : Option AV) (y0 : Int) (w : WS) (r : Nat) (o : Ro) : Prop := Lg 273 336 [(some (.inr (.inr (some 0)))), d1, d2, d3, d4, (some (.inl x5)), d6, d7, (some (.inl x8)), (some (.inl x9)), d10] [(.inl y0)] w r o
theorem bK273_21 {d1 : Option AV} {d2 : Option AV} {x3 : Int} {x4 : Int} {d5 : Option AV} {d6 : Option AV} {d7 : Option AV} {d8 : Option AV} {d9 : Option AV} {d10 : Option AV} {w : WS} {r : Nat} {o : Ro} (h : (-2147483648 ≤ ((Int.tmod (Int.tdiv x3 6) 5) - 1) ∧ ((Int.tmod (Int.tdiv x3 6) 5) - 1) ≤ 2147483647) ∧ (3 ≤ r) ∧ (∃ (v3 : Int) (s2 : Sg), Dc 215 [(.inr (.inr (some 0))), (.inl x4), (.inl (Int.tmod x3 6)), (.inl ((Int.tmod (Int.tdiv x3 6) 5) - 1))] w.2.2 (.inl (some (.inl v3))) s2 ∧ (-2147483648 ≤ ((Int.tmod (Int.tdiv x3 6) 5) - 1) ∧ ((Int.tmod (Int.tdiv x3 6) 5) - 1) ≤ 2147483647) ∧ (3 ≤ (r - 3)) ∧ (∃ (v8 : Int) (s7 : Sg), Dc 215 [(.inr (.inr (some 0))), (.inl x4), (.inl (Int.tmod x3 6)), (.inl ((Int.tmod (Int.tdiv x3 6) 5) - 1))] (wS w s2).2.2 (.inl (some (.inl v8))) s7 ∧ K273_73 d1 d2 (some (.inl x3)) (some (.inl x4)) v3 d6 d7 d8 d9 d10 v8 (if 0 < (Int.tmod (Int.tdiv x3 6) 5) then 1 else 0) (wS (wS w s2) s7) ((r - 3) - 3) o))) : K273_21 d1 d2 x3 x4 d5 d6 d7 d8 d9 d10 w r o := by
  show Lg 273 21 [(some (.inr (.inr (some 0)))), d1, d2, (some (.inl x3)), (some (.inl x4)), d5, d6, d7, d8, d9, d10] [] w r o
  refine zq_aload_n 22 (show zop 273 21 = some (.aload_n 0, 1) by decide +kernel) rfl rfl ?_
  refine zq_iload 24 (show zop 273 22 = some (.iload 4, 2) by decide +kernel) rfl rfl ?_
  refine zq_iload_n 25 (show zop 273 24 = some (.iload_n 3, 1) by decide +kernel) rfl rfl ?_
  refine zq_bipush 27 (show zop 273 25 = some (.bipush 6, 2) by decide +kernel) rfl (by decide) ?_
  refine zq_irem 28 (show zop 273 27 = some (.irem, 1) by decide +kernel) rfl (by decide) ?_
  refine zq_iload_n 29 (show zop 273 28 = some (.iload_n 3, 1) by decide +kernel) rfl rfl ?_
  refine zq_bipush 31 (show zop 273 29 = some (.bipush 6, 2) by decide +kernel) rfl (by decide) ?_
  refine zq_idiv 32 (show zop 273 31 = some (.idiv, 1) by decide +kernel) rfl (by decide) ?_
  refine zq_iconst 33 (show zop 273 32 = some (.iconst 5, 1) by decide +kernel) rfl rfl ?_
  refine zq_irem 34 (show zop 273 33 = some (.irem, 1) by decide +kernel) rfl (by decide) ?_
  refine zq_iconst 35 (show zop 273 34 = some (.iconst 1, 1) by decide +kernel) rfl rfl ?_
  obtain ⟨g1, h⟩ := h
  refine zq_isub 36 (show zop 273 35 = some (.isub, 1) by decide +kernel) rfl g1 ?_
  obtain ⟨g5, h⟩ := h
  obtain ⟨v3, s2, hD4, h⟩ := h
  refine zq_vi (v := some (.inl v3)) (σ' := s2) (nj := 4) (j := 215) (c := 3) (t := []) (as := [(.inr (.inr (some 0))), (.inl x4), (.inl (Int.tmod x3 6)), (.inl ((Int.tmod (Int.tdiv x3 6) 5) - 1))]) 39 [(.inl v3)] (show zop 273 36 = some (.invokevirtual 260, 3) by decide +kernel) (by decide +kernel) rfl (by decide +kernel) rfl rfl rfl rfl rfl rfl (by decide +kernel) (by decide +kernel) (clS_0 rfl) hD4 rfl g5 ?_
  refine zq_istore 41 [(some (.inr (.inr (some 0)))), d1, d2, (some (.inl x3)), (some (.inl x4)), (some (.inl v3)), d6, d7, d8, d9, d10] (show zop 273 39 = some (.istore 5, 2) by decide +kernel) rfl rfl rfl ?_
  refine zq_aload_n 42 (show zop 273 41 = some (.aload_n 0, 1) by decide +kernel) rfl rfl ?_
  refine zq_iload 44 (show zop 273 42 = some (.iload 4, 2) by decide +kernel) rfl rfl ?_
  refine zq_iload_n 45 (show zop 273 44 = some (.iload_n 3, 1) by decide +kernel) rfl rfl ?_
  refine zq_bipush 47 (show zop 273 45 = some (.bipush 6, 2) by decide +kernel) rfl (by decide) ?_
  refine zq_irem 48 (show zop 273 47 = some (.irem, 1) by decide +kernel) rfl (by decide) ?_
  refine zq_iload_n 49 (show zop 273 48 = some (.iload_n 3, 1) by decide +kernel) rfl rfl ?_
  refine zq_bipush 51 (show zop 273 49 = some (.bipush 6, 2) by decide +kernel) rfl (by decide) ?_
  refine zq_idiv 52 (show zop 273 51 = some (.idiv, 1) by decide +kernel) rfl (by decide) ?_
  refine zq_iconst 53 (show zop 273 52 = some (.iconst 5, 1) by decide +kernel) rfl rfl ?_
  refine zq_irem 54 (show zop 273 53 = some (.irem, 1) by decide +kernel) rfl (by decide) ?_
  refine zq_iconst 55 (show zop 273 54 = some (.iconst 1, 1) by decide +kernel) rfl rfl ?_
  obtain ⟨g6, h⟩ := h
  refine zq_isub 56 (show zop 273 55 = some (.isub, 1) by decide +kernel) rfl g6 ?_
  obtain ⟨g10, h⟩ := h
  obtain ⟨v8, s7, hD9, h⟩ := h
  refine zq_vi (v := some (.inl v8)) (σ' := s7) (nj := 4) (j := 215) (c := 3) (t := []) (as := [(.inr (.inr (some 0))), (.inl x4), (.inl (Int.tmod x3 6)), (.inl ((Int.tmod (Int.tdiv x3 6) 5) - 1))]) 59 [(.inl v8)] (show zop 273 56 = some (.invokevirtual 260, 3) by decide +kernel) (by decide +kernel) rfl (by decide +kernel) rfl rfl rfl rfl rfl rfl (by decide +kernel) (by decide +kernel) (clS_0 rfl) hD9 rfl g10 ?_
  refine zq_iload_n 60 (show zop 273 59 = some (.iload_n 3, 1) by decide +kernel) rfl rfl ?_
  refine zq_bipush 62 (show zop 273 60 = some (.bipush 6, 2) by decide +kernel) rfl (by decide) ?_
  refine zq_idiv 63 (show zop 273 62 = some (.idiv, 1) by decide +kernel) rfl (by decide) ?_
  refine zq_iconst 64 (show zop 273 63 = some (.iconst 5, 1) by decide +kernel) rfl rfl ?_
  refine zq_irem 65 (show zop 273 64 = some (.irem, 1) by decide +kernel) rfl (by decide) ?_
  by_cases hc11 : 0 < (Int.tmod (Int.tdiv x3 6) 5)
  · refine zq_ifF 68 72 (show zop 273 65 = some (.ifCond .le 7, 3) by decide +kernel) rfl rfl (decide_eq_false (Int.not_le.mpr hc11)) ?_
    refine zq_iconst 69 (show zop 273 68 = some (.iconst 1, 1) by decide +kernel) rfl rfl ?_
    refine zq_goto 73 (show zop 273 69 = some (.goto 4, 3) by decide +kernel) rfl ?_
    have h9 := h; simp only [if_pos hc11] at h9; exact h9
  · refine zq_ifT 72 (show zop 273 65 = some (.ifCond .le 7, 3) by decide +kernel) rfl (decide_eq_true (Int.not_lt.mp hc11)) ?_
    refine zq_iconst 73 (show zop 273 72 = some (.iconst 0, 1) by decide +kernel) rfl rfl ?_
    have h9 := h; simp only [if_neg hc11] at h9; exact h9
theorem bK273_138 {d1 : Option AV} {d2 : Option AV} {x3 : Int} {x4 : Int} {x5 : Int} {d6 : Option AV} {d7 : Option AV} {d8 : Option AV} {d9 : Option AV} {d10 : Option AV} {y0 : Int} {w : WS} {r : Nat} {o : Ro} (h : K273_146 d1 d2 x3 x4 x5 y0 0 0 d9 d10 w r o) : K273_138 d1 d2 x3 x4 x5 d6 d7 d8 d9 d10 y0 w r o := by
  show Lg 273 138 [(some (.inr (.inr (some 0)))), d1, d2, (some (.inl x3)), (some (.inl x4)), (some (.inl x5)), d6, d7, d8, d9, d10] [(.inl y0)] w r o
  refine zq_istore 140 [(some (.inr (.inr (some 0)))), d1, d2, (some (.inl x3)), (some (.inl x4)), (some (.inl x5)), (some (.inl y0)), d7, d8, d9, d10] (show zop 273 138 = some (.istore 6, 2) by decide +kernel) rfl rfl rfl ?_
  refine zq_iconst 141 (show zop 273 140 = some (.iconst 0, 1) by decide +kernel) rfl rfl ?_
  refine zq_istore 143 [(some (.inr (.inr (some 0)))), d1, d2, (some (.inl x3)), (some (.inl x4)), (some (.inl x5)), (some (.inl y0)), (some (.inl 0)), d8, d9, d10] (show zop 273 141 = some (.istore 7, 2) by decide +kernel) rfl rfl rfl ?_
  refine zq_iconst 144 (show zop 273 143 = some (.iconst 0, 1) by decide +kernel) rfl rfl ?_
  refine zq_istore 146 [(some (.inr (.inr (some 0)))), d1, d2, (some (.inl x3)), (some (.inl x4)), (some (.inl x5)), (some (.inl y0)), (some (.inl 0)), (some (.inl 0)), d9, d10] (show zop 273 144 = some (.istore 8, 2) by decide +kernel) rfl rfl rfl ?_
  exact h
theorem bK273_73 {d1 : Option AV} {d2 : Option AV} {d3 : Option AV} {d4 : Option AV} {x5 : Int} {d6 : Option AV} {d7 : Option AV} {d8 : Option AV} {d9 : Option AV} {d10 : Option AV} {y0 : Int} {y1 : Int} {w : WS} {r : Nat} {o : Ro} (h : K273_81 d1 d2 d3 d4 x5 d6 d7 d8 d9 d10 (if y0 = y1 then 1 else 0) w r o) : K273_73 d1 d2 d3 d4 x5 d6 d7 d8 d9 d10 y0 y1 w r o := by
  show Lg 273 73 [(some (.inr (.inr (some 0)))), d1, d2, d3, d4, (some (.inl x5)), d6, d7, d8, d9, d10] [(.inl y1), (.inl y0)] w r o
  by_cases hc1 : y0 = y1
  · refine zq_icmpF 76 80 (show zop 273 73 = some (.if_icmp .ne 7, 3) by decide +kernel) rfl rfl (decide_eq_false (fun h9 => h9 hc1)) ?_
    refine zq_iconst 77 (show zop 273 76 = some (.iconst 1, 1) by decide +kernel) rfl rfl ?_
    refine zq_goto 81 (show zop 273 77 = some (.goto 4, 3) by decide +kernel) rfl ?_
    have h9 := h; simp only [if_pos hc1] at h9; exact h9
  · refine zq_icmpT 80 (show zop 273 73 = some (.if_icmp .ne 7, 3) by decide +kernel) rfl (decide_eq_true hc1) ?_
    refine zq_iconst 81 (show zop 273 80 = some (.iconst 0, 1) by decide +kernel) rfl rfl ?_
    have h9 := h; simp only [if_neg hc1] at h9; exact h9
theorem bK273_146 {d1 : Option AV} {d2 : Option AV} {x3 : Int} {x4 : Int} {x5 : Int} {x6 : Int} {x7 : Int} {x8 : Int} {d9 : Option AV} {d10 : Option AV} {w : WS} {r : Nat} {o : Ro} (h : (if x8 < 6 then (2 ≤ r) ∧ (∃ (v2 : Int) (s1 : Sg), Dc 218 [(.inr (.inr (some 0))), (.inl x5), (.inl x8)] w.2.2 (.inl (some (.inl v2))) s1 ∧ (if x6 = 0 then K273_210 d1 d2 x3 x4 x5 (some (.inl x6)) x7 x8 v2 d10 (wS w s1) (r - 2) o else (if v2 = (-1) then K273_206 d1 d2 x3 x4 x5 (some (.inl x6)) x7 x8 v2 d10 (wS w s1) (r - 2) o else (if v2 < 6 then (if (iAnd (iShr x7 v2) 1) = 0 then (if x4 = (Int.tmod x3 3) then (if v2 = x8 then K273_206 d1 d2 x3 x4 x5 (some (.inl x6)) x7 x8 v2 d10 (wS w s1) (r - 2) o else K273_210 d1 d2 x3 x4 x5 (some (.inl x6)) x7 x8 v2 d10 (wS w s1) (r - 2) o) else K273_206 d1 d2 x3 x4 x5 (some (.inl x6)) x7 x8 v2 d10 (wS w s1) (r - 2) o) else K273_210 d1 d2 x3 x4 x5 (some (.inl x6)) x7 x8 v2 d10 (wS w s1) (r - 2) o) else K273_210 d1 d2 x3 x4 x5 (some (.inl x6)) x7 x8 v2 d10 (wS w s1) (r - 2) o)))) else (-2147483648 ≤ (x5 + 1) ∧ (x5 + 1) ≤ 2147483647) ∧ (0 < (x5 + 1)) ∧ (if x6 = 0 then K273_272 d1 d2 (some (.inl x3)) (some (.inl x4)) x5 (some (.inl x6)) (some (.inl x7)) (Int.tmod (Int.tdiv x3 3) (x5 + 1)) d9 d10 w r o else (3 ≤ r) ∧ (∃ (v8 : Int) (s7 : Sg), Dc 217 [(.inr (.inr (some 0))), (.inl x5), (.inl (Int.tmod (Int.tdiv x3 3) (x5 + 1)))] w.2.2 (.inl (some (.inl v8))) s7 ∧ (-2147483648 ≤ (x5 + 1) ∧ (x5 + 1) ≤ 2147483647) ∧ (if v8 = (x5 + 1) then K273_273 d1 d2 (some (.inl x3)) (some (.inl x4)) x5 (some (.inl x6)) (some (.inl x7)) (Int.tmod (Int.tdiv x3 3) (x5 + 1)) d9 d10 1 (wS w s7) (r - 3) o else K273_272 d1 d2 (some (.inl x3)) (some (.inl x4)) x5 (some (.inl x6)) (some (.inl x7)) (Int.tmod (Int.tdiv x3 3) (x5 + 1)) d9 d10 (wS w s7) (r - 3) o))))) : K273_146 d1 d2 x3 x4 x5 x6 x7 x8 d9 d10 w r o := by
  show Lg 273 146 [(some (.inr (.inr (some 0)))), d1, d2, (some (.inl x3)), (some (.inl x4)), (some (.inl x5)), (some (.inl x6)), (some (.inl x7)), (some (.inl x8)), d9, d10] [] w r o
  refine zq_iload 148 (show zop 273 146 = some (.iload 8, 2) by decide +kernel) rfl rfl ?_
  refine zq_bipush 150 (show zop 273 148 = some (.bipush 6, 2) by decide +kernel) rfl (by decide) ?_
  by_cases hc12 : x8 < 6
  · rw [if_pos hc12] at h
    refine zq_icmpF 153 238 (show zop 273 150 = some (.if_icmp .ge 88, 3) by decide +kernel) rfl rfl (decide_eq_false (Int.not_le.mpr hc12)) ?_
    refine zq_aload_n 154 (show zop 273 153 = some (.aload_n 0, 1) by decide +kernel) rfl rfl ?_
    refine zq_iload 156 (show zop 273 154 = some (.iload 5, 2) by decide +kernel) rfl rfl ?_
    refine zq_iload 158 (show zop 273 156 = some (.iload 8, 2) by decide +kernel) rfl rfl ?_
    obtain ⟨g4, h⟩ := h
    obtain ⟨v2, s1, hD3, h⟩ := h
    refine zq_vi (v := some (.inl v2)) (σ' := s1) (nj := 3) (j := 218) (c := 2) (t := []) (as := [(.inr (.inr (some 0))), (.inl x5), (.inl x8)]) 161 [(.inl v2)] (show zop 273 158 = some (.invokevirtual 267, 3) by decide +kernel) (by decide +kernel) rfl (by decide +kernel) rfl rfl rfl rfl rfl rfl (by decide +kernel) (by decide +kernel) (clS_0 rfl) hD3 rfl g4 ?_
    refine zq_istore 163 [(some (.inr (.inr (some 0)))), d1, d2, (some (.inl x3)), (some (.inl x4)), (some (.inl x5)), (some (.inl x6)), (some (.inl x7)), (some (.inl x8)), (some (.inl v2)), d10] (show zop 273 161 = some (.istore 9, 2) by decide +kernel) rfl rfl rfl ?_
    refine zq_iload 165 (show zop 273 163 = some (.iload 6, 2) by decide +kernel) rfl rfl ?_
    by_cases hc13 : x6 = 0
    · rw [if_pos hc13] at h
      refine zq_ifT 210 (show zop 273 165 = some (.ifCond .eq 45, 3) by decide +kernel) rfl (decide_eq_true hc13) ?_
      exact h
    · rw [if_neg hc13] at h
      refine zq_ifF 168 210 (show zop 273 165 = some (.ifCond .eq 45, 3) by decide +kernel) rfl rfl (decide_eq_false hc13) ?_
      refine zq_iload 170 (show zop 273 168 = some (.iload 9, 2) by decide +kernel) rfl rfl ?_
      refine zq_iconst 171 (show zop 273 170 = some (.iconst (-1), 1) by decide +kernel) rfl rfl ?_
      by_cases hc14 : v2 = (-1)
      · rw [if_pos hc14] at h
        refine zq_icmpT 206 (show zop 273 171 = some (.if_icmp .eq 35, 3) by decide +kernel) rfl (decide_eq_true hc14) ?_
        exact h
      · rw [if_neg hc14] at h
        refine zq_icmpF 174 206 (show zop 273 171 = some (.if_icmp .eq 35, 3) by decide +kernel) rfl rfl (decide_eq_false hc14) ?_
        refine zq_iload 176 (show zop 273 174 = some (.iload 9, 2) by decide +kernel) rfl rfl ?_
        refine zq_bipush 178 (show zop 273 176 = some (.bipush 6, 2) by decide +kernel) rfl (by decide) ?_
        by_cases hc15 : v2 < 6
        · rw [if_pos hc15] at h
          refine zq_icmpF 181 210 (show zop 273 178 = some (.if_icmp .ge 32, 3) by decide +kernel) rfl rfl (decide_eq_false (Int.not_le.mpr hc15)) ?_
          refine zq_iload 183 (show zop 273 181 = some (.iload 7, 2) by decide +kernel) rfl rfl ?_
          refine zq_iload 185 (show zop 273 183 = some (.iload 9, 2) by decide +kernel) rfl rfl ?_
          refine zq_ishr 186 (show zop 273 185 = some (.ishr, 1) by decide +kernel) rfl ?_
          refine zq_iconst 187 (show zop 273 186 = some (.iconst 1, 1) by decide +kernel) rfl rfl ?_
          refine zq_iand 188 (show zop 273 187 = some (.iand, 1) by decide +kernel) rfl ?_
          by_cases hc16 : (iAnd (iShr x7 v2) 1) = 0
          · rw [if_pos hc16] at h
            refine zq_ifF 191 210 (show zop 273 188 = some (.ifCond .ne 22, 3) by decide +kernel) rfl rfl (decide_eq_false (fun h9 => h9 hc16)) ?_
            refine zq_iload 193 (show zop 273 191 = some (.iload 4, 2) by decide +kernel) rfl rfl ?_
            refine zq_iload_n 194 (show zop 273 193 = some (.iload_n 3, 1) by decide +kernel) rfl rfl ?_
            refine zq_iconst 195 (show zop 273 194 = some (.iconst 3, 1) by decide +kernel) rfl rfl ?_
            refine zq_irem 196 (show zop 273 195 = some (.irem, 1) by decide +kernel) rfl (by decide) ?_
            by_cases hc17 : x4 = (Int.tmod x3 3)
            · rw [if_pos hc17] at h
              refine zq_icmpF 199 206 (show zop 273 196 = some (.if_icmp .ne 10, 3) by decide +kernel) rfl rfl (decide_eq_false (fun h9 => h9 hc17)) ?_
              refine zq_iload 201 (show zop 273 199 = some (.iload 9, 2) by decide +kernel) rfl rfl ?_
              refine zq_iload 203 (show zop 273 201 = some (.iload 8, 2) by decide +kernel) rfl rfl ?_
              by_cases hc18 : v2 = x8
              · rw [if_pos hc18] at h
                refine zq_icmpF 206 210 (show zop 273 203 = some (.if_icmp .ne 7, 3) by decide +kernel) rfl rfl (decide_eq_false (fun h9 => h9 hc18)) ?_
                exact h
              · rw [if_neg hc18] at h
                refine zq_icmpT 210 (show zop 273 203 = some (.if_icmp .ne 7, 3) by decide +kernel) rfl (decide_eq_true hc18) ?_
                exact h
            · rw [if_neg hc17] at h
              refine zq_icmpT 206 (show zop 273 196 = some (.if_icmp .ne 10, 3) by decide +kernel) rfl (decide_eq_true hc17) ?_
              exact h
          · rw [if_neg hc16] at h
            refine zq_ifT 210 (show zop 273 188 = some (.ifCond .ne 22, 3) by decide +kernel) rfl (decide_eq_true hc16) ?_
            exact h
        · rw [if_neg hc15] at h
          refine zq_icmpT 210 (show zop 273 178 = some (.if_icmp .ge 32, 3) by decide +kernel) rfl (decide_eq_true (Int.not_lt.mp hc15)) ?_
          exact h
  · rw [if_neg hc12] at h
    refine zq_icmpT 238 (show zop 273 150 = some (.if_icmp .ge 88, 3) by decide +kernel) rfl (decide_eq_true (Int.not_lt.mp hc12)) ?_
    refine zq_iload_n 239 (show zop 273 238 = some (.iload_n 3, 1) by decide +kernel) rfl rfl ?_
    refine zq_iconst 240 (show zop 273 239 = some (.iconst 3, 1) by decide +kernel) rfl rfl ?_
    refine zq_idiv 241 (show zop 273 240 = some (.idiv, 1) by decide +kernel) rfl (by decide) ?_
    refine zq_iload 243 (show zop 273 241 = some (.iload 5, 2) by decide +kernel) rfl rfl ?_
    refine zq_iconst 244 (show zop 273 243 = some (.iconst 1, 1) by decide +kernel) rfl rfl ?_
    obtain ⟨g5, h⟩ := h
    refine zq_iadd 245 (show zop 273 244 = some (.iadd, 1) by decide +kernel) rfl g5 ?_
    obtain ⟨g6, h⟩ := h
    refine zq_irem 246 (show zop 273 245 = some (.irem, 1) by decide +kernel) rfl g6 ?_
    refine zq_istore 248 [(some (.inr (.inr (some 0)))), d1, d2, (some (.inl x3)), (some (.inl x4)), (some (.inl x5)), (some (.inl x6)), (some (.inl x7)), (some (.inl (Int.tmod (Int.tdiv x3 3) (x5 + 1)))), d9, d10] (show zop 273 246 = some (.istore 8, 2) by decide +kernel) rfl rfl rfl ?_
    refine zq_iload 250 (show zop 273 248 = some (.iload 6, 2) by decide +kernel) rfl rfl ?_
    by_cases hc19 : x6 = 0
    · rw [if_pos hc19] at h
      refine zq_ifT 272 (show zop 273 250 = some (.ifCond .eq 22, 3) by decide +kernel) rfl (decide_eq_true hc19) ?_
      exact h
    · rw [if_neg hc19] at h
      refine zq_ifF 253 272 (show zop 273 250 = some (.ifCond .eq 22, 3) by decide +kernel) rfl rfl (decide_eq_false hc19) ?_
      refine zq_aload_n 254 (show zop 273 253 = some (.aload_n 0, 1) by decide +kernel) rfl rfl ?_
      refine zq_iload 256 (show zop 273 254 = some (.iload 5, 2) by decide +kernel) rfl rfl ?_
      refine zq_iload 258 (show zop 273 256 = some (.iload 8, 2) by decide +kernel) rfl rfl ?_
      obtain ⟨g10, h⟩ := h
      obtain ⟨v8, s7, hD9, h⟩ := h
      refine zq_vi (v := some (.inl v8)) (σ' := s7) (nj := 3) (j := 217) (c := 3) (t := []) (as := [(.inr (.inr (some 0))), (.inl x5), (.inl (Int.tmod (Int.tdiv x3 3) (x5 + 1)))]) 261 [(.inl v8)] (show zop 273 258 = some (.invokevirtual 270, 3) by decide +kernel) (by decide +kernel) rfl (by decide +kernel) rfl rfl rfl rfl rfl rfl (by decide +kernel) (by decide +kernel) (clS_0 rfl) hD9 rfl g10 ?_
      refine zq_iload 263 (show zop 273 261 = some (.iload 5, 2) by decide +kernel) rfl rfl ?_
      refine zq_iconst 264 (show zop 273 263 = some (.iconst 1, 1) by decide +kernel) rfl rfl ?_
      obtain ⟨g11, h⟩ := h
      refine zq_iadd 265 (show zop 273 264 = some (.iadd, 1) by decide +kernel) rfl g11 ?_
      by_cases hc20 : v8 = (x5 + 1)
      · rw [if_pos hc20] at h
        refine zq_icmpF 268 272 (show zop 273 265 = some (.if_icmp .ne 7, 3) by decide +kernel) rfl rfl (decide_eq_false (fun h9 => h9 hc20)) ?_
        refine zq_iconst 269 (show zop 273 268 = some (.iconst 1, 1) by decide +kernel) rfl rfl ?_
        refine zq_goto 273 (show zop 273 269 = some (.goto 4, 3) by decide +kernel) rfl ?_
        exact h
      · rw [if_neg hc20] at h
        refine zq_icmpT 272 (show zop 273 265 = some (.if_icmp .ne 7, 3) by decide +kernel) rfl (decide_eq_true hc20) ?_
        exact h
theorem bK273_81 {d1 : Option AV} {d2 : Option AV} {d3 : Option AV} {d4 : Option AV} {x5 : Int} {d6 : Option AV} {d7 : Option AV} {d8 : Option AV} {d9 : Option AV} {d10 : Option AV} {y0 : Int} {w : WS} {r : Nat} {o : Ro} (h : (if y0 = 0 then K273_105 (some (.inr (.inr (some 0)))) d1 d2 d3 d4 (some (.inl x5)) (some (.inl y0)) d7 d8 d9 d10 w r o else (if x5 = 0 then K273_101 (some (.inr (.inr (some 0)))) d1 d2 d3 d4 (some (.inl x5)) (some (.inl y0)) d7 d8 d9 d10 w r o else (1 ≤ r) ∧ (∃ (v2 : Int) (s1 : Sg), Dc 175 [(.inr (.inr (some 0))), (.inl 0)] w.2.2 (.inl (some (.inl v2))) s1 ∧ (if 0 ≤ v2 then K273_101 (some (.inr (.inr (some 0)))) d1 d2 d3 d4 (some (.inl x5)) (some (.inl y0)) d7 d8 d9 d10 (wS w s1) (r - 1) o else K273_105 (some (.inr (.inr (some 0)))) d1 d2 d3 d4 (some (.inl x5)) (some (.inl y0)) d7 d8 d9 d10 (wS w s1) (r - 1) o))))) : K273_81 d1 d2 d3 d4 x5 d6 d7 d8 d9 d10 y0 w r o := by
  show Lg 273 81 [(some (.inr (.inr (some 0)))), d1, d2, d3, d4, (some (.inl x5)), d6, d7, d8, d9, d10] [(.inl y0)] w r o
  refine zq_istore 83 [(some (.inr (.inr (some 0)))), d1, d2, d3, d4, (some (.inl x5)), (some (.inl y0)), d7, d8, d9, d10] (show zop 273 81 = some (.istore 6, 2) by decide +kernel) rfl rfl rfl ?_
  refine zq_iload 85 (show zop 273 83 = some (.iload 6, 2) by decide +kernel) rfl rfl ?_
  by_cases hc5 : y0 = 0
  · rw [if_pos hc5] at h
    refine zq_ifT 105 (show zop 273 85 = some (.ifCond .eq 20, 3) by decide +kernel) rfl (decide_eq_true hc5) ?_
    exact h
  · rw [if_neg hc5] at h
    refine zq_ifF 88 105 (show zop 273 85 = some (.ifCond .eq 20, 3) by decide +kernel) rfl rfl (decide_eq_false hc5) ?_
    refine zq_iload 90 (show zop 273 88 = some (.iload 5, 2) by decide +kernel) rfl rfl ?_
    by_cases hc6 : x5 = 0
    · rw [if_pos hc6] at h
      refine zq_ifT 101 (show zop 273 90 = some (.ifCond .eq 11, 3) by decide +kernel) rfl (decide_eq_true hc6) ?_
      exact h
    · rw [if_neg hc6] at h
      refine zq_ifF 93 101 (show zop 273 90 = some (.ifCond .eq 11, 3) by decide +kernel) rfl rfl (decide_eq_false hc6) ?_
      refine zq_aload_n 94 (show zop 273 93 = some (.aload_n 0, 1) by decide +kernel) rfl rfl ?_
      refine zq_iconst 95 (show zop 273 94 = some (.iconst 0, 1) by decide +kernel) rfl rfl ?_
      obtain ⟨g4, h⟩ := h
      obtain ⟨v2, s1, hD3, h⟩ := h
      refine zq_vi (v := some (.inl v2)) (σ' := s1) (nj := 2) (j := 175) (c := 1) (t := []) (as := [(.inr (.inr (some 0))), (.inl 0)]) 98 [(.inl v2)] (show zop 273 95 = some (.invokevirtual 10, 3) by decide +kernel) (by decide +kernel) rfl (by decide +kernel) rfl rfl rfl rfl rfl rfl (by decide +kernel) (by decide +kernel) (clS_0 rfl) hD3 rfl g4 ?_
      by_cases hc7 : 0 ≤ v2
      · rw [if_pos hc7] at h
        refine zq_ifF 101 105 (show zop 273 98 = some (.ifCond .lt 7, 3) by decide +kernel) rfl rfl (decide_eq_false (Int.not_lt.mpr hc7)) ?_
        exact h
      · rw [if_neg hc7] at h
        refine zq_ifT 105 (show zop 273 98 = some (.ifCond .lt 7, 3) by decide +kernel) rfl (decide_eq_true (Int.not_le.mp hc7)) ?_
        exact h
theorem bK273_210 {d1 : Option AV} {d2 : Option AV} {x3 : Int} {x4 : Int} {x5 : Int} {d6 : Option AV} {x7 : Int} {x8 : Int} {x9 : Int} {d10 : Option AV} {w : WS} {r : Nat} {o : Ro} (h : K273_211 d1 d2 x3 x4 x5 d6 x7 x8 x9 d10 0 w r o) : K273_210 d1 d2 x3 x4 x5 d6 x7 x8 x9 d10 w r o := by
  show Lg 273 210 [(some (.inr (.inr (some 0)))), d1, d2, (some (.inl x3)), (some (.inl x4)), (some (.inl x5)), d6, (some (.inl x7)), (some (.inl x8)), (some (.inl x9)), d10] [] w r o
  refine zq_iconst 211 (show zop 273 210 = some (.iconst 0, 1) by decide +kernel) rfl rfl ?_
  exact h
theorem bK273_206 {d1 : Option AV} {d2 : Option AV} {x3 : Int} {x4 : Int} {x5 : Int} {d6 : Option AV} {x7 : Int} {x8 : Int} {x9 : Int} {d10 : Option AV} {w : WS} {r : Nat} {o : Ro} (h : K273_211 d1 d2 x3 x4 x5 d6 x7 x8 x9 d10 1 w r o) : K273_206 d1 d2 x3 x4 x5 d6 x7 x8 x9 d10 w r o := by
  show Lg 273 206 [(some (.inr (.inr (some 0)))), d1, d2, (some (.inl x3)), (some (.inl x4)), (some (.inl x5)), d6, (some (.inl x7)), (some (.inl x8)), (some (.inl x9)), d10] [] w r o
  refine zq_iconst 207 (show zop 273 206 = some (.iconst 1, 1) by decide +kernel) rfl rfl ?_
  refine zq_goto 211 (show zop 273 207 = some (.goto 4, 3) by decide +kernel) rfl ?_
  exact h
theorem bK273_272 {d1 : Option AV} {d2 : Option AV} {d3 : Option AV} {d4 : Option AV} {x5 : Int} {d6 : Option AV} {d7 : Option AV} {x8 : Int} {d9 : Option AV} {d10 : Option AV} {w : WS} {r : Nat} {o : Ro} (h : K273_273 d1 d2 d3 d4 x5 d6 d7 x8 d9 d10 0 w r o) : K273_272 d1 d2 d3 d4 x5 d6 d7 x8 d9 d10 w r o := by
  show Lg 273 272 [(some (.inr (.inr (some 0)))), d1, d2, d3, d4, (some (.inl x5)), d6, d7, (some (.inl x8)), d9, d10] [] w r o
  refine zq_iconst 273 (show zop 273 272 = some (.iconst 0, 1) by decide +kernel) rfl rfl ?_
  exact h
theorem bK273_273 {d1 : Option AV} {d2 : Option AV} {d3 : Option AV} {d4 : Option AV} {x5 : Int} {d6 : Option AV} {d7 : Option AV} {x8 : Int} {d9 : Option AV} {d10 : Option AV} {y0 : Int} {w : WS} {r : Nat} {o : Ro} (h : K273_278 d1 d2 d3 d4 x5 y0 d7 x8 0 d10 w r o) : K273_273 d1 d2 d3 d4 x5 d6 d7 x8 d9 d10 y0 w r o := by
  show Lg 273 273 [(some (.inr (.inr (some 0)))), d1, d2, d3, d4, (some (.inl x5)), d6, d7, (some (.inl x8)), d9, d10] [(.inl y0)] w r o
  refine zq_istore 275 [(some (.inr (.inr (some 0)))), d1, d2, d3, d4, (some (.inl x5)), (some (.inl y0)), d7, (some (.inl x8)), d9, d10] (show zop 273 273 = some (.istore 6, 2) by decide +kernel) rfl rfl rfl ?_
  refine zq_iconst 276 (show zop 273 275 = some (.iconst 0, 1) by decide +kernel) rfl rfl ?_
  refine zq_istore 278 [(some (.inr (.inr (some 0)))), d1, d2, d3, d4, (some (.inl x5)), (some (.inl y0)), d7, (some (.inl x8)), (some (.inl 0)), d10] (show zop 273 276 = some (.istore 9, 2) by decide +kernel) rfl rfl rfl ?_
  exact h
theorem bK273_105 {d0 : Option AV} {d1 : Option AV} {d2 : Option AV} {d3 : Option AV} {d4 : Option AV} {d5 : Option AV} {d6 : Option AV} {d7 : Option AV} {d8 : Option AV} {d9 : Option AV} {d10 : Option AV} {w : WS} {r : Nat} {o : Ro} (h : K273_106 d0 d1 d2 d3 d4 d5 d6 d7 d8 d9 d10 0 w r o) : K273_105 d0 d1 d2 d3 d4 d5 d6 d7 d8 d9 d10 w r o := by
  show Lg 273 105 [d0, d1, d2, d3, d4, d5, d6, d7, d8, d9, d10] [] w r o
  refine zq_iconst 106 (show zop 273 105 = some (.iconst 0, 1) by decide +kernel) rfl rfl ?_
  exact h
theorem bK273_101 {d0 : Option AV} {d1 : Option AV} {d2 : Option AV} {d3 : Option AV} {d4 : Option AV} {d5 : Option AV} {d6 : Option AV} {d7 : Option AV} {d8 : Option AV} {d9 : Option AV} {d10 : Option AV} {w : WS} {r : Nat} {o : Ro} (h : K273_106 d0 d1 d2 d3 d4 d5 d6 d7 d8 d9 d10 1 w r o) : K273_101 d0 d1 d2 d3 d4 d5 d6 d7 d8 d9 d10 w r o := by
  show Lg 273 101 [d0, d1, d2, d3, d4, d5, d6, d7, d8, d9, d10] [] w r o
  refine zq_iconst 102 (show zop 273 101 = some (.iconst 1, 1) by decide +kernel) rfl rfl ?_
  refine zq_goto 106 (show zop 273 102 = some (.goto 4, 3) by decide +kernel) rfl ?_
  exact h
theorem bK273_211 {d1 : Option AV} {d2 : Option AV} {x3 : Int} {x4 : Int} {x5 : Int} {d6 : Option AV} {x7 : Int} {x8 : Int} {x9 : Int} {d10 : Option AV} {y0 : Int} {w : WS} {r : Nat} {o : Ro} (h : K273_229 d1 d2 x3 x4 x5 y0 (some (.inl x7)) x8 (some (.inl x9)) d10 x7 (if x9 = (-1) then 0 else (iShl 1 x9)) w r o) : K273_211 d1 d2 x3 x4 x5 d6 x7 x8 x9 d10 y0 w r o := by
  show Lg 273 211 [(some (.inr (.inr (some 0)))), d1, d2, (some (.inl x3)), (some (.inl x4)), (some (.inl x5)), d6, (some (.inl x7)), (some (.inl x8)), (some (.inl x9)), d10] [(.inl y0)] w r o
  refine zq_istore 213 [(some (.inr (.inr (some 0)))), d1, d2, (some (.inl x3)), (some (.inl x4)), (some (.inl x5)), (some (.inl y0)), (some (.inl x7)), (some (.inl x8)), (some (.inl x9)), d10] (show zop 273 211 = some (.istore 6, 2) by decide +kernel) rfl rfl rfl ?_
  refine zq_iload 215 (show zop 273 213 = some (.iload 7, 2) by decide +kernel) rfl rfl ?_
  refine zq_iload 217 (show zop 273 215 = some (.iload 9, 2) by decide +kernel) rfl rfl ?_
  refine zq_iconst 218 (show zop 273 217 = some (.iconst (-1), 1) by decide +kernel) rfl rfl ?_
  by_cases hc1 : x9 = (-1)
  · refine zq_icmpF 221 225 (show zop 273 218 = some (.if_icmp .ne 7, 3) by decide +kernel) rfl rfl (decide_eq_false (fun h9 => h9 hc1)) ?_
    refine zq_iconst 222 (show zop 273 221 = some (.iconst 0, 1) by decide +kernel) rfl rfl ?_
    refine zq_goto 229 (show zop 273 222 = some (.goto 7, 3) by decide +kernel) rfl ?_
    have h9 := h; simp only [if_pos hc1] at h9; exact h9
  · refine zq_icmpT 225 (show zop 273 218 = some (.if_icmp .ne 7, 3) by decide +kernel) rfl (decide_eq_true hc1) ?_
    refine zq_iconst 226 (show zop 273 225 = some (.iconst 1, 1) by decide +kernel) rfl rfl ?_
    refine zq_iload 228 (show zop 273 226 = some (.iload 9, 2) by decide +kernel) rfl rfl ?_
    refine zq_ishl 229 (show zop 273 228 = some (.ishl, 1) by decide +kernel) rfl ?_
    have h9 := h; simp only [if_neg hc1] at h9; exact h9
theorem bK273_278 {d1 : Option AV} {d2 : Option AV} {d3 : Option AV} {d4 : Option AV} {x5 : Int} {x6 : Int} {d7 : Option AV} {x8 : Int} {x9 : Int} {d10 : Option AV} {w : WS} {r : Nat} {o : Ro} (h : (if x9 < 6 then (if x6 = 0 then K273_344 (some (.inr (.inr (some 0)))) d1 d2 d3 d4 (some (.inl x5)) x6 d7 (some (.inl x8)) (some (.inl x9)) d10 w r o else (2 ≤ r) ∧ (∃ (v2 : Int) (s1 : Sg), Dc 218 [(.inr (.inr (some 0))), (.inl x5), (.inl x9)] w.2.2 (.inl (some (.inl v2))) s1 ∧ (-2147483648 ≤ (x5 + 1) ∧ (x5 + 1) ≤ 2147483647) ∧ (2 ≤ (r - 2)) ∧ (∃ (v7 : Int) (s6 : Sg), Dc 218 [(.inr (.inr (some 0))), (.inl (x5 + 1)), (.inl x9)] (wS w s1).2.2 (.inl (some (.inl v7))) s6 ∧ (if v2 = (-1) then K273_328 d1 d2 d3 d4 x5 (some (.inl x6)) d7 x8 x9 (some (.inl v2)) v7 (-1) (wS (wS w s1) s6) ((r - 2) - 2) o else (2 ≤ ((r - 2) - 2)) ∧ (∃ (v11 : Int) (s10 : Sg), Dc 218 [(.inr (.inr (some 0))), (.inl x8), (.inl v2)] (wS (wS w s1) s6).2.2 (.inl (some (.inl v11))) s10 ∧ K273_328 d1 d2 d3 d4 x5 (some (.inl x6)) d7 x8 x9 (some (.inl v2)) v7 v11 (wS (wS (wS w s1) s6) s10) (((r - 2) - 2) - 2) o))))) else K273_344 (some (.inr (.inr (some 0)))) d1 d2 d3 d4 (some (.inl x5)) x6 d7 (some (.inl x8)) (some (.inl x9)) d10 w r o)) : K273_278 d1 d2 d3 d4 x5 x6 d7 x8 x9 d10 w r o := by
  show Lg 273 278 [(some (.inr (.inr (some 0)))), d1, d2, d3, d4, (some (.inl x5)), (some (.inl x6)), d7, (some (.inl x8)), (some (.inl x9)), d10] [] w r o
  refine zq_iload 280 (show zop 273 278 = some (.iload 9, 2) by decide +kernel) rfl rfl ?_
  refine zq_bipush 282 (show zop 273 280 = some (.bipush 6, 2) by decide +kernel) rfl (by decide) ?_
  by_cases hc14 : x9 < 6
  · rw [if_pos hc14] at h
    refine zq_icmpF 285 344 (show zop 273 282 = some (.if_icmp .ge 62, 3) by decide +kernel) rfl rfl (decide_eq_false (Int.not_le.mpr hc14)) ?_
    refine zq_iload 287 (show zop 273 285 = some (.iload 6, 2) by decide +kernel) rfl rfl ?_
    by_cases hc15 : x6 = 0
    · rw [if_pos hc15] at h
      refine zq_ifT 344 (show zop 273 287 = some (.ifCond .eq 57, 3) by decide +kernel) rfl (decide_eq_true hc15) ?_
      exact h
    · rw [if_neg hc15] at h
      refine zq_ifF 290 344 (show zop 273 287 = some (.ifCond .eq 57, 3) by decide +kernel) rfl rfl (decide_eq_false hc15) ?_
      refine zq_aload_n 291 (show zop 273 290 = some (.aload_n 0, 1) by decide +kernel) rfl rfl ?_
      refine zq_iload 293 (show zop 273 291 = some (.iload 5, 2) by decide +kernel) rfl rfl ?_
      refine zq_iload 295 (show zop 273 293 = some (.iload 9, 2) by decide +kernel) rfl rfl ?_
      obtain ⟨g4, h⟩ := h
      obtain ⟨v2, s1, hD3, h⟩ := h
      refine zq_vi (v := some (.inl v2)) (σ' := s1) (nj := 3) (j := 218) (c := 2) (t := []) (as := [(.inr (.inr (some 0))), (.inl x5), (.inl x9)]) 298 [(.inl v2)] (show zop 273 295 = some (.invokevirtual 267, 3) by decide +kernel) (by decide +kernel) rfl (by decide +kernel) rfl rfl rfl rfl rfl rfl (by decide +kernel) (by decide +kernel) (clS_0 rfl) hD3 rfl g4 ?_
      refine zq_istore 300 [(some (.inr (.inr (some 0)))), d1, d2, d3, d4, (some (.inl x5)), (some (.inl x6)), d7, (some (.inl x8)), (some (.inl x9)), (some (.inl v2))] (show zop 273 298 = some (.istore 10, 2) by decide +kernel) rfl rfl rfl ?_
      refine zq_aload_n 301 (show zop 273 300 = some (.aload_n 0, 1) by decide +kernel) rfl rfl ?_
      refine zq_iload 303 (show zop 273 301 = some (.iload 5, 2) by decide +kernel) rfl rfl ?_
      refine zq_iconst 304 (show zop 273 303 = some (.iconst 1, 1) by decide +kernel) rfl rfl ?_
      obtain ⟨g5, h⟩ := h
      refine zq_iadd 305 (show zop 273 304 = some (.iadd, 1) by decide +kernel) rfl g5 ?_
      refine zq_iload 307 (show zop 273 305 = some (.iload 9, 2) by decide +kernel) rfl rfl ?_
      obtain ⟨g9, h⟩ := h
      obtain ⟨v7, s6, hD8, h⟩ := h
      refine zq_vi (v := some (.inl v7)) (σ' := s6) (nj := 3) (j := 218) (c := 2) (t := []) (as := [(.inr (.inr (some 0))), (.inl (x5 + 1)), (.inl x9)]) 310 [(.inl v7)] (show zop 273 307 = some (.invokevirtual 267, 3) by decide +kernel) (by decide +kernel) rfl (by decide +kernel) rfl rfl rfl rfl rfl rfl (by decide +kernel) (by decide +kernel) (clS_0 rfl) hD8 rfl g9 ?_
      refine zq_iload 312 (show zop 273 310 = some (.iload 10, 2) by decide +kernel) rfl rfl ?_
      refine zq_iconst 313 (show zop 273 312 = some (.iconst (-1), 1) by decide +kernel) rfl rfl ?_
      by_cases hc16 : v2 = (-1)
      · rw [if_pos hc16] at h
        refine zq_icmpF 316 320 (show zop 273 313 = some (.if_icmp .ne 7, 3) by decide +kernel) rfl rfl (decide_eq_false (fun h9 => h9 hc16)) ?_
        refine zq_iconst 317 (show zop 273 316 = some (.iconst (-1), 1) by decide +kernel) rfl rfl ?_
        refine zq_goto 328 (show zop 273 317 = some (.goto 11, 3) by decide +kernel) rfl ?_
        exact h
      · rw [if_neg hc16] at h
        refine zq_icmpT 320 (show zop 273 313 = some (.if_icmp .ne 7, 3) by decide +kernel) rfl (decide_eq_true hc16) ?_
        refine zq_aload_n 321 (show zop 273 320 = some (.aload_n 0, 1) by decide +kernel) rfl rfl ?_
        refine zq_iload 323 (show zop 273 321 = some (.iload 8, 2) by decide +kernel) rfl rfl ?_
        refine zq_iload 325 (show zop 273 323 = some (.iload 10, 2) by decide +kernel) rfl rfl ?_
        obtain ⟨g13, h⟩ := h
        obtain ⟨v11, s10, hD12, h⟩ := h
        refine zq_vi (v := some (.inl v11)) (σ' := s10) (nj := 3) (j := 218) (c := 2) (t := [(.inl v7)]) (as := [(.inr (.inr (some 0))), (.inl x8), (.inl v2)]) 328 [(.inl v11), (.inl v7)] (show zop 273 325 = some (.invokevirtual 267, 3) by decide +kernel) (by decide +kernel) rfl (by decide +kernel) rfl rfl rfl rfl rfl rfl (by decide +kernel) (by decide +kernel) (clS_0 rfl) hD12 rfl g13 ?_
        exact h
  · rw [if_neg hc14] at h
    refine zq_icmpT 344 (show zop 273 282 = some (.if_icmp .ge 62, 3) by decide +kernel) rfl (decide_eq_true (Int.not_lt.mp hc14)) ?_
    exact h
theorem bK273_106 {d0 : Option AV} {d1 : Option AV} {d2 : Option AV} {d3 : Option AV} {d4 : Option AV} {d5 : Option AV} {d6 : Option AV} {d7 : Option AV} {d8 : Option AV} {d9 : Option AV} {d10 : Option AV} {y0 : Int} {w : WS} {r : Nat} {o : Ro} (h : (y0 = 0 ∨ y0 = 1) ∧ o = (.inl (some (.inl y0)), w)) : K273_106 d0 d1 d2 d3 d4 d5 d6 d7 d8 d9 d10 y0 w r o := by
  show Lg 273 106 [d0, d1, d2, d3, d4, d5, d6, d7, d8, d9, d10] [(.inl y0)] w r o
  obtain ⟨g1, h⟩ := h
  exact (zq_zret (show zop 273 106 = some (.ireturn, 1) by decide +kernel) (by decide +kernel) g1 h)
theorem bK273_229 {d1 : Option AV} {d2 : Option AV} {x3 : Int} {x4 : Int} {x5 : Int} {x6 : Int} {d7 : Option AV} {x8 : Int} {d9 : Option AV} {d10 : Option AV} {y0 : Int} {y1 : Int} {w : WS} {r : Nat} {o : Ro} (h : (-2147483648 ≤ (x8 + 1) ∧ (x8 + 1) ≤ 2147483647) ∧ K273_146 d1 d2 x3 x4 x5 x6 (iOr y0 y1) (x8 + 1) d9 d10 w r o) : K273_229 d1 d2 x3 x4 x5 x6 d7 x8 d9 d10 y0 y1 w r o := by
  show Lg 273 229 [(some (.inr (.inr (some 0)))), d1, d2, (some (.inl x3)), (some (.inl x4)), (some (.inl x5)), (some (.inl x6)), d7, (some (.inl x8)), d9, d10] [(.inl y1), (.inl y0)] w r o
  refine zq_ior 230 (show zop 273 229 = some (.ior, 1) by decide +kernel) rfl ?_
  refine zq_istore 232 [(some (.inr (.inr (some 0)))), d1, d2, (some (.inl x3)), (some (.inl x4)), (some (.inl x5)), (some (.inl x6)), (some (.inl (iOr y0 y1))), (some (.inl x8)), d9, d10] (show zop 273 230 = some (.istore 7, 2) by decide +kernel) rfl rfl rfl ?_
  obtain ⟨g1, h⟩ := h
  refine zq_iinc 235 [(some (.inr (.inr (some 0)))), d1, d2, (some (.inl x3)), (some (.inl x4)), (some (.inl x5)), (some (.inl x6)), (some (.inl (iOr y0 y1))), (some (.inl (x8 + 1))), d9, d10] (show zop 273 232 = some (.iinc 8 1, 3) by decide +kernel) rfl rfl g1 rfl ?_
  refine zq_goto 146 (show zop 273 235 = some (.goto (-89), 3) by decide +kernel) rfl ?_
  exact h
theorem bK273_344 {d0 : Option AV} {d1 : Option AV} {d2 : Option AV} {d3 : Option AV} {d4 : Option AV} {d5 : Option AV} {x6 : Int} {d7 : Option AV} {d8 : Option AV} {d9 : Option AV} {d10 : Option AV} {w : WS} {r : Nat} {o : Ro} (h : (x6 = 0 ∨ x6 = 1) ∧ o = (.inl (some (.inl x6)), w)) : K273_344 d0 d1 d2 d3 d4 d5 x6 d7 d8 d9 d10 w r o := by
  show Lg 273 344 [d0, d1, d2, d3, d4, d5, (some (.inl x6)), d7, d8, d9, d10] [] w r o
  refine zq_iload 346 (show zop 273 344 = some (.iload 6, 2) by decide +kernel) rfl rfl ?_
  obtain ⟨g1, h⟩ := h
  exact (zq_zret (show zop 273 346 = some (.ireturn, 1) by decide +kernel) (by decide +kernel) g1 h)
theorem bK273_328 {d1 : Option AV} {d2 : Option AV} {d3 : Option AV} {d4 : Option AV} {x5 : Int} {d6 : Option AV} {d7 : Option AV} {x8 : Int} {x9 : Int} {d10 : Option AV} {y0 : Int} {y1 : Int} {w : WS} {r : Nat} {o : Ro} (h : K273_336 d1 d2 d3 d4 x5 d6 d7 x8 x9 d10 (if y0 = y1 then 1 else 0) w r o) : K273_328 d1 d2 d3 d4 x5 d6 d7 x8 x9 d10 y0 y1 w r o := by
  show Lg 273 328 [(some (.inr (.inr (some 0)))), d1, d2, d3, d4, (some (.inl x5)), d6, d7, (some (.inl x8)), (some (.inl x9)), d10] [(.inl y1), (.inl y0)] w r o
  by_cases hc1 : y0 = y1
  · refine zq_icmpF 331 335 (show zop 273 328 = some (.if_icmp .ne 7, 3) by decide +kernel) rfl rfl (decide_eq_false (fun h9 => h9 hc1)) ?_
    refine zq_iconst 332 (show zop 273 331 = some (.iconst 1, 1) by decide +kernel) rfl rfl ?_
    refine zq_goto 336 (show zop 273 332 = some (.goto 4, 3) by decide +kernel) rfl ?_
    have h9 := h; simp only [if_pos hc1] at h9; exact h9
  · refine zq_icmpT 335 (show zop 273 328 = some (.if_icmp .ne 7, 3) by decide +kernel) rfl (decide_eq_true hc1) ?_
    refine zq_iconst 336 (show zop 273 335 = some (.iconst 0, 1) by decide +kernel) rfl rfl ?_
    have h9 := h; simp only [if_neg hc1] at h9; exact h9
theorem bK273_336 {d1 : Option AV} {d2 : Option AV} {d3 : Option AV} {d4 : Option AV} {x5 : Int} {d6 : Option AV} {d7 : Option AV} {x8 : Int} {x9 : Int} {d10 : Option AV} {y0 : Int} {w : WS} {r : Nat} {o : Ro} (h : (-2147483648 ≤ (x9 + 1) ∧ (x9 + 1) ≤ 2147483647) ∧ K273_278 d1 d2 d3 d4 x5 y0 d7 x8 (x9 + 1) d10 w r o) : K273_336 d1 d2 d3 d4 x5 d6 d7 x8 x9 d10 y0 w r o := by
  show Lg 273 336 [(some (.inr (.inr (some 0)))), d1, d2, d3, d4, (some (.inl x5)), d6, d7, (some (.inl x8)), (some (.inl x9)), d10] [(.inl y0)] w r o
  refine zq_istore 338 [(some (.inr (.inr (some 0)))), d1, d2, d3, d4, (some (.inl x5)), (some (.inl y0)), d7, (some (.inl x8)), (some (.inl x9)), d10] (show zop 273 336 = some (.istore 6, 2) by decide +kernel) rfl rfl rfl ?_
  obtain ⟨g1, h⟩ := h
  refine zq_iinc 341 [(some (.inr (.inr (some 0)))), d1, d2, d3, d4, (some (.inl x5)), (some (.inl y0)), d7, (some (.inl x8)), (some (.inl (x9 + 1))), d10] (show zop 273 338 = some (.iinc 9 1, 3) by decide +kernel) rfl rfl g1 rfl ?_
  refine zq_goto 278 (show zop 273 341 = some (.goto (-63), 3) by decide +kernel) rfl ?_
  exact h
/-- PatchBenchLaw.trees (LPatchBench;[III)Z -/
theorem lb273 {x2 : Int} {x3 : Int} {w : WS} {o : Ro} (h : (if (Int.tmod (Int.tdiv x2 3) 4) ≤ 0 then (w.1[0]? = some (0, 12, [])) ∧ (0 ≤ (1 : Int) ∧ (1 : Int) < 12) ∧ (if 8 < (w.2.1 682 ((1 : Int)).toNat) then K273_21 (some (.inr (.inr (some 682)))) (some (.inl x2)) x3 (Int.tmod x2 3) none none none none none none w 100 o else (w.1[0]? = some (0, 12, [])) ∧ (0 ≤ (1 : Int) ∧ (1 : Int) < 12) ∧ (w.1[0]? = some (0, 12, [])) ∧ (0 ≤ (1 : Int) ∧ (1 : Int) < 12) ∧ (-2147483648 ≤ ((w.2.1 682 ((1 : Int)).toNat) + 2) ∧ ((w.2.1 682 ((1 : Int)).toNat) + 2) ≤ 2147483647) ∧ (w.1[0]? = some (0, 12, [])) ∧ (0 ≤ (1 : Int) ∧ (1 : Int) < 12) ∧ (3 ≤ 100) ∧ (∃ (v15 : Int) (s14 : Sg), Dc 216 [(.inr (.inr (some 0))), (.inl (Int.tmod x2 3)), (.inl (Int.tmod x3 3))] (wU w 682 ((1 : Int)).toNat ((w.2.1 682 ((1 : Int)).toNat) + 2)).2.2 (.inl (some (.inl v15))) s14 ∧ K273_138 (some (.inr (.inr (some 682)))) (some (.inl x2)) x3 (Int.tmod x2 3) (w.2.1 682 ((1 : Int)).toNat) none none none none none (if v15 = (w.2.1 682 ((1 : Int)).toNat) then 1 else 0) (wS (wU w 682 ((1 : Int)).toNat ((w.2.1 682 ((1 : Int)).toNat) + 2)) s14) (100 - 3) o)) else K273_21 (some (.inr (.inr (some 682)))) (some (.inl x2)) x3 (Int.tmod x2 3) none none none none none none w 100 o)) : Lx 273 [(.inr (.inr (some 0))), (.inr (.inr (some 682))), (.inl x2), (.inl x3)] w o := by
  refine Lx_of (l := 11) (r := 100) (by decide +kernel) (by decide +kernel) ?_
  show Lg 273 0 [(some (.inr (.inr (some 0)))), (some (.inr (.inr (some 682)))), (some (.inl x2)), (some (.inl x3)), none, none, none, none, none, none, none] [] w 100 o
  refine zq_iload_n 1 (show zop 273 0 = some (.iload_n 2, 1) by decide +kernel) rfl rfl ?_
  refine zq_iconst 2 (show zop 273 1 = some (.iconst 3, 1) by decide +kernel) rfl rfl ?_
  refine zq_irem 3 (show zop 273 2 = some (.irem, 1) by decide +kernel) rfl (by decide) ?_
  refine zq_istore 5 [(some (.inr (.inr (some 0)))), (some (.inr (.inr (some 682)))), (some (.inl x2)), (some (.inl x3)), (some (.inl (Int.tmod x2 3))), none, none, none, none, none, none] (show zop 273 3 = some (.istore 4, 2) by decide +kernel) rfl rfl rfl ?_
  refine zq_iload_n 6 (show zop 273 5 = some (.iload_n 2, 1) by decide +kernel) rfl rfl ?_
  refine zq_iconst 7 (show zop 273 6 = some (.iconst 3, 1) by decide +kernel) rfl rfl ?_
  refine zq_idiv 8 (show zop 273 7 = some (.idiv, 1) by decide +kernel) rfl (by decide) ?_
  refine zq_iconst 9 (show zop 273 8 = some (.iconst 4, 1) by decide +kernel) rfl rfl ?_
  refine zq_irem 10 (show zop 273 9 = some (.irem, 1) by decide +kernel) rfl (by decide) ?_
  by_cases hc18 : (Int.tmod (Int.tdiv x2 3) 4) ≤ 0
  · rw [if_pos hc18] at h
    refine zq_ifF 13 21 (show zop 273 10 = some (.ifCond .gt 11, 3) by decide +kernel) rfl rfl (decide_eq_false (Int.not_lt.mpr hc18)) ?_
    refine zq_aload_n 14 (show zop 273 13 = some (.aload_n 1, 1) by decide +kernel) rfl rfl ?_
    refine zq_iconst 15 (show zop 273 14 = some (.iconst 1, 1) by decide +kernel) rfl rfl ?_
    obtain ⟨g3, h⟩ := h
    obtain ⟨g1, h⟩ := h
    refine zq_iaload 16 12 (show zop 273 15 = some (.iaload, 1) by decide +kernel) rfl (by decide) g3 g1 ?_
    refine zq_bipush 18 (show zop 273 16 = some (.bipush 8, 2) by decide +kernel) rfl (by decide) ?_
    by_cases hc19 : 8 < (w.2.1 682 ((1 : Int)).toNat)
    · rw [if_pos hc19] at h
      refine zq_icmpF 21 107 (show zop 273 18 = some (.if_icmp .le 89, 3) by decide +kernel) rfl rfl (decide_eq_false (Int.not_le.mpr hc19)) ?_
      exact h
    · rw [if_neg hc19] at h
      refine zq_icmpT 107 (show zop 273 18 = some (.if_icmp .le 89, 3) by decide +kernel) rfl (decide_eq_true (Int.not_lt.mp hc19)) ?_
      refine zq_aload_n 108 (show zop 273 107 = some (.aload_n 1, 1) by decide +kernel) rfl rfl ?_
      refine zq_iconst 109 (show zop 273 108 = some (.iconst 1, 1) by decide +kernel) rfl rfl ?_
      obtain ⟨g6, h⟩ := h
      obtain ⟨g4, h⟩ := h
      refine zq_iaload 110 12 (show zop 273 109 = some (.iaload, 1) by decide +kernel) rfl (by decide) g6 g4 ?_
      refine zq_istore 112 [(some (.inr (.inr (some 0)))), (some (.inr (.inr (some 682)))), (some (.inl x2)), (some (.inl x3)), (some (.inl (Int.tmod x2 3))), (some (.inl (w.2.1 682 ((1 : Int)).toNat))), none, none, none, none, none] (show zop 273 110 = some (.istore 5, 2) by decide +kernel) rfl rfl rfl ?_
      refine zq_aload_n 113 (show zop 273 112 = some (.aload_n 1, 1) by decide +kernel) rfl rfl ?_
      refine zq_iconst 114 (show zop 273 113 = some (.iconst 1, 1) by decide +kernel) rfl rfl ?_
      refine zq_dup2 115 (show zop 273 114 = some (.dup2, 1) by decide +kernel) rfl rfl rfl ?_
      obtain ⟨g9, h⟩ := h
      obtain ⟨g7, h⟩ := h
      refine zq_iaload 116 12 (show zop 273 115 = some (.iaload, 1) by decide +kernel) rfl (by decide) g9 g7 ?_
      refine zq_iconst 117 (show zop 273 116 = some (.iconst 2, 1) by decide +kernel) rfl rfl ?_
      obtain ⟨g10, h⟩ := h
      refine zq_iadd 118 (show zop 273 117 = some (.iadd, 1) by decide +kernel) rfl g10 ?_
      obtain ⟨g13, h⟩ := h
      obtain ⟨g11, h⟩ := h
      refine zq_iastore 119 12 (show zop 273 118 = some (.iastore, 1) by decide +kernel) rfl (by decide) g13 g11 ?_
      refine zq_aload_n 120 (show zop 273 119 = some (.aload_n 0, 1) by decide +kernel) rfl rfl ?_
      refine zq_iload 122 (show zop 273 120 = some (.iload 4, 2) by decide +kernel) rfl rfl ?_
      refine zq_iload_n 123 (show zop 273 122 = some (.iload_n 3, 1) by decide +kernel) rfl rfl ?_
      refine zq_iconst 124 (show zop 273 123 = some (.iconst 3, 1) by decide +kernel) rfl rfl ?_
      refine zq_irem 125 (show zop 273 124 = some (.irem, 1) by decide +kernel) rfl (by decide) ?_
      obtain ⟨g17, h⟩ := h
      obtain ⟨v15, s14, hD16, h⟩ := h
      refine zq_vi (v := some (.inl v15)) (σ' := s14) (nj := 3) (j := 216) (c := 3) (t := []) (as := [(.inr (.inr (some 0))), (.inl (Int.tmod x2 3)), (.inl (Int.tmod x3 3))]) 128 [(.inl v15)] (show zop 273 125 = some (.invokevirtual 264, 3) by decide +kernel) (by decide +kernel) rfl (by decide +kernel) rfl rfl rfl rfl rfl rfl (by decide +kernel) (by decide +kernel) (clS_0 rfl) hD16 rfl g17 ?_
      refine zq_iload 130 (show zop 273 128 = some (.iload 5, 2) by decide +kernel) rfl rfl ?_
      by_cases hc20 : v15 = (w.2.1 682 ((1 : Int)).toNat)
      · refine zq_icmpF 133 137 (show zop 273 130 = some (.if_icmp .ne 7, 3) by decide +kernel) rfl rfl (decide_eq_false (fun h9 => h9 hc20)) ?_
        refine zq_iconst 134 (show zop 273 133 = some (.iconst 1, 1) by decide +kernel) rfl rfl ?_
        refine zq_goto 138 (show zop 273 134 = some (.goto 4, 3) by decide +kernel) rfl ?_
        have h9 := h; simp only [if_pos hc20] at h9; exact h9
      · refine zq_icmpT 137 (show zop 273 130 = some (.if_icmp .ne 7, 3) by decide +kernel) rfl (decide_eq_true hc20) ?_
        refine zq_iconst 138 (show zop 273 137 = some (.iconst 0, 1) by decide +kernel) rfl rfl ?_
        have h9 := h; simp only [if_neg hc20] at h9; exact h9
  · rw [if_neg hc18] at h
    refine zq_ifT 21 (show zop 273 10 = some (.ifCond .gt 11, 3) by decide +kernel) rfl (decide_eq_true (Int.not_le.mp hc18)) ?_
    exact h
def K274_2 (x1 : Int) (x2 : Int) (w : WS) (r : Nat) (o : Ro) : Prop := Lg 274 2 [(some (.inr (.inr (some 0)))), (some (.inl x1)), (some (.inl x2))] [] w r o
theorem bK274_2 {x1 : Int} {x2 : Int} {w : WS} {r : Nat} {o : Ro} (h : (2 ≤ r) ∧ (∃ (v2 : Int) (s1 : Sg), Dc 221 [(.inr (.inr (some 0))), (.inl x1), (.inl x2)] w.2.2 (.inl (some (.inl v2))) s1 ∧ (if v2 = (-1) then o = (.inl (some (.inl x2)), (wS w s1)) else (-2147483648 ≤ (x2 + 1) ∧ (x2 + 1) ≤ 2147483647) ∧ K274_2 x1 (x2 + 1) (wS w s1) (r - 2) o))) : K274_2 x1 x2 w r o := by
  show Lg 274 2 [(some (.inr (.inr (some 0)))), (some (.inl x1)), (some (.inl x2))] [] w r o
  refine zq_aload_n 3 (show zop 274 2 = some (.aload_n 0, 1) by decide +kernel) rfl rfl ?_
  refine zq_iload_n 4 (show zop 274 3 = some (.iload_n 1, 1) by decide +kernel) rfl rfl ?_
  refine zq_iload_n 5 (show zop 274 4 = some (.iload_n 2, 1) by decide +kernel) rfl rfl ?_
  obtain ⟨g4, h⟩ := h
  obtain ⟨v2, s1, hD3, h⟩ := h
  refine zq_vi (v := some (.inl v2)) (σ' := s1) (nj := 3) (j := 221) (c := 2) (t := []) (as := [(.inr (.inr (some 0))), (.inl x1), (.inl x2)]) 8 [(.inl v2)] (show zop 274 5 = some (.invokevirtual 273, 3) by decide +kernel) (by decide +kernel) rfl (by decide +kernel) rfl rfl rfl rfl rfl rfl (by decide +kernel) (by decide +kernel) (clS_0 rfl) hD3 rfl g4 ?_
  refine zq_iconst 9 (show zop 274 8 = some (.iconst (-1), 1) by decide +kernel) rfl rfl ?_
  by_cases hc6 : v2 = (-1)
  · rw [if_pos hc6] at h
    refine zq_icmpT 18 (show zop 274 9 = some (.if_icmp .eq 9, 3) by decide +kernel) rfl (decide_eq_true hc6) ?_
    refine zq_iload_n 19 (show zop 274 18 = some (.iload_n 2, 1) by decide +kernel) rfl rfl ?_
    exact (zq_iret (show zop 274 19 = some (.ireturn, 1) by decide +kernel) (by decide +kernel) h)
  · rw [if_neg hc6] at h
    refine zq_icmpF 12 18 (show zop 274 9 = some (.if_icmp .eq 9, 3) by decide +kernel) rfl rfl (decide_eq_false hc6) ?_
    obtain ⟨g5, h⟩ := h
    refine zq_iinc 15 [(some (.inr (.inr (some 0)))), (some (.inl x1)), (some (.inl (x2 + 1)))] (show zop 274 12 = some (.iinc 2 1, 3) by decide +kernel) rfl rfl g5 rfl ?_
    refine zq_goto 2 (show zop 274 15 = some (.goto (-13), 3) by decide +kernel) rfl ?_
    exact h
/-- PatchBenchLaw.sizeOfRow (LPatchBench;I)I -/
theorem lb274 {x1 : Int} {w : WS} {o : Ro} (h : K274_2 x1 0 w 90 o) : Lx 274 [(.inr (.inr (some 0))), (.inl x1)] w o := by
  refine Lx_of (l := 3) (r := 90) (by decide +kernel) (by decide +kernel) ?_
  show Lg 274 0 [(some (.inr (.inr (some 0)))), (some (.inl x1)), none] [] w 90 o
  refine zq_iconst 1 (show zop 274 0 = some (.iconst 0, 1) by decide +kernel) rfl rfl ?_
  refine zq_istore_n 2 [(some (.inr (.inr (some 0)))), (some (.inl x1)), (some (.inl 0))] (show zop 274 1 = some (.istore_n 2, 1) by decide +kernel) rfl rfl rfl ?_
  exact h
def K275_45 (d1 : Option AV) (d2 : Option AV) (x3 : Int) (x4 : Int) (d5 : Option AV) (d6 : Option AV) (d7 : Option AV) (d8 : Option AV) (d9 : Option AV) (d10 : Option AV) (d11 : Option AV) (d12 : Option AV) (d13 : Option AV) (w : WS) (r : Nat) (o : Ro) : Prop := Lg 275 45 [(some (.inr (.inr (some 0)))), d1, d2, (some (.inl x3)), (some (.inl x4)), d5, d6, d7, d8, d9, d10, d11, d12, d13] [] w r o
def K275_50 (d1 : Option AV) (d2 : Option AV) (x3 : Int) (x4 : Int) (d5 : Option AV) (d6 : Option AV) (d7 : Option AV) (d8 : Option AV) (d9 : Option AV) (d10 : Option AV) (d11 : Option AV) (d12 : Option AV) (d13 : Option AV) (y0 : Int) (w : WS) (r : Nat) (o : Ro) : Prop := Lg 275 50 [(some (.inr (.inr (some 0)))), d1, d2, (some (.inl x3)), (some (.inl x4)), d5, d6, d7, d8, d9, d10, d11, d12, d13] [(.inl y0)] w r o
def K275_168 (d0 : Option AV) (d1 : Option AV) (d2 : Option AV) (d3 : Option AV) (d4 : Option AV) (d5 : Option AV) (d6 : Option AV) (d7 : Option AV) (d8 : Option AV) (d9 : Option AV) (d10 : Option AV) (d11 : Option AV) (d12 : Option AV) (d13 : Option AV) (y0 : Int) (w : WS) (r : Nat) (o : Ro) : Prop := Lg 275 168 [d0, d1, d2, d3, d4, d5, d6, d7, d8, d9, d10, d11, d12, d13] [(.inl y0)] w r o
def K275_213 (d2 : Option AV) (x3 : Int) (x4 : Int) (x5 : Int) (x6 : Int) (x7 : Int) (x8 : Int) (x9 : Int) (x10 : Int) (d11 : Option AV) (d12 : Option AV) (d13 : Option AV) (y0 : Int) (w : WS) (r : Nat) (o : Ro) : Prop := Lg 275 213 [(some (.inr (.inr (some 0)))), (some (.inr (.inr (some 682)))), d2, (some (.inl x3)), (some (.inl x4)), (some (.inl x5)), (some (.inl x6)), (some (.inl x7)), (some (.inl x8)), (some (.inl x9)), (some (.inl x10)), d11, d12, d13] [(.inl y0)] w r o
def K275_55 (d1 : Option AV) (d2 : Option AV) (x3 : Int) (x4 : Int) (d5 : Option AV) (d6 : Option AV) (x7 : Int) (x8 : Int) (d9 : Option AV) (d10 : Option AV) (d11 : Option AV) (d12 : Option AV) (d13 : Option AV) (w : WS) (r : Nat) (o : Ro) : Prop := Lg 275 55 [(some (.inr (.inr (some 0)))), d1, d2, (some (.inl x3)), (some (.inl x4)), d5, d6, (some (.inl x7)), (some (.inl x8)), d9, d10, d11, d12, d13] [] w r o
def K275_218 (d2 : Option AV) (x3 : Int) (x4 : Int) (x5 : Int) (x6 : Int) (x7 : Int) (x8 : Int) (x9 : Int) (x10 : Int) (x11 : Int) (x12 : Int) (d13 : Option AV) (w : WS) (r : Nat) (o : Ro) : Prop := Lg 275 218 [(some (.inr (.inr (some 0)))), (some (.inr (.inr (some 682)))), d2, (some (.inl x3)), (some (.inl x4)), (some (.inl x5)), (some (.inl x6)), (some (.inl x7)), (some (.inl x8)), (some (.inl x9)), (some (.inl x10)), (some (.inl x11)), (some (.inl x12)), d13] [] w r o
def K275_134 (d0 : Option AV) (d1 : Option AV) (d2 : Option AV) (d3 : Option AV) (d4 : Option AV) (d5 : Option AV) (d6 : Option AV) (x7 : Int) (d8 : Option AV) (d9 : Option AV) (d10 : Option AV) (d11 : Option AV) (d12 : Option AV) (d13 : Option AV) (w : WS) (r : Nat) (o : Ro) : Prop := Lg 275 134 [d0, d1, d2, d3, d4, d5, d6, (some (.inl x7)), d8, d9, d10, d11, d12, d13] [] w r o
def K275_126 (d1 : Option AV) (d2 : Option AV) (x3 : Int) (x4 : Int) (d5 : Option AV) (d6 : Option AV) (d7 : Option AV) (x8 : Int) (d9 : Option AV) (d10 : Option AV) (d11 : Option AV) (d12 : Option AV) (d13 : Option AV) (y0 : Int) (w : WS) (r : Nat) (o : Ro) : Prop := Lg 275 126 [(some (.inr (.inr (some 0)))), d1, d2, (some (.inl x3)), (some (.inl x4)), d5, d6, d7, (some (.inl x8)), d9, d10, d11, d12, d13] [(.inl y0)] w r o
def K275_125 (d1 : Option AV) (d2 : Option AV) (x3 : Int) (x4 : Int) (d5 : Option AV) (d6 : Option AV) (d7 : Option AV) (x8 : Int) (d9 : Option AV) (d10 : Option AV) (d11 : Option AV) (d12 : Option AV) (d13 : Option AV) (w : WS) (r : Nat) (o : Ro) : Prop := Lg 275 125 [(some (.inr (.inr (some 0)))), d1, d2, (some (.inl x3)), (some (.inl x4)), d5, d6, d7, (some (.inl x8)), d9, d10, d11, d12, d13] [] w r o
def K275_373 (d2 : Option AV) (x3 : Int) (x4 : Int) (x5 : Int) (d6 : Option AV) (x7 : Int) (x8 : Int) (d9 : Option AV) (d10 : Option AV) (d11 : Option AV) (d12 : Option AV) (d13 : Option AV) (w : WS) (r : Nat) (o : Ro) : Prop := Lg 275 373 [(some (.inr (.inr (some 0)))), (some (.inr (.inr (some 682)))), d2, (some (.inl x3)), (some (.inl x4)), (some (.inl x5)), d6, (some (.inl x7)), (some (.inl x8)), d9, d10, d11, d12, d13] [] w r o
def K275_374 (d2 : Option AV) (x3 : Int) (x4 : Int) (x5 : Int) (d6 : Option AV) (x7 : Int) (x8 : Int) (d9 : Option AV) (d10 : Option AV) (d11 : Option AV) (d12 : Option AV) (d13 : Option AV) (y0 : Int) (w : WS) (r : Nat) (o : Ro) : Prop := Lg 275 374 [(some (.inr (.inr (some 0)))), (some (.inr (.inr (some 682)))), d2, (some (.inl x3)), (some (.inl x4)), (some (.inl x5)), d6, (some (.inl x7)), (some (.inl x8)), d9, d10, d11, d12, d13] [(.inl y0)] w r o
def K275_277 (d2 : Option AV) (x3 : Int) (x4 : Int) (x5 : Int) (x6 : Int) (x7 : Int) (x8 : Int) (x9 : Int) (d10 : Option AV) (x11 : Int) (x12 : Int) (x13 : Int) (y0 : Int) (y1 : Int) (w : WS) (r : Nat) (o : Ro) : Prop := Lg 275 277 [(some (.inr (.inr (some 0)))), (some (.inr (.inr (some 682)))), d2, (some (.inl x3)), (some (.inl x4)), (some (.inl x5)), (some (.inl x6)), (some (.inl x7)), (some (.inl x8)), (some (.inl x9)), d10, (some (.inl x11)), (some (.inl x12)), (some (.inl x13))] [(.inl y1), (.inl y0)] w r o
def K275_414 (d2 : Option AV) (x3 : Int) (d4 : Option AV) (x5 : Int) (d6 : Option AV) (x7 : Int) (x8 : Int) (d9 : Option AV) (d10 : Option AV) (d11 : Option AV) (x12 : Int) (d13 : Option AV) (w : WS) (r : Nat) (o : Ro) : Prop := Lg 275 414 [(some (.inr (.inr (some 0)))), (some (.inr (.inr (some 682)))), d2, (some (.inl x3)), d4, (some (.inl x5)), d6, (some (.inl x7)), (some (.inl x8)), d9, d10, d11, (some (.inl x12)), d13] [] w r o
def K275_415 (d2 : Option AV) (x3 : Int) (d4 : Option AV) (x5 : Int) (d6 : Option AV) (x7 : Int) (x8 : Int) (d9 : Option AV) (d10 : Option AV) (d11 : Option AV) (x12 : Int) (d13 : Option AV) (y0 : Int) (w : WS) (r : Nat) (o : Ro) : Prop := Lg 275 415 [(some (.inr (.inr (some 0)))), (some (.inr (.inr (some 682)))), d2, (some (.inl x3)), d4, (some (.inl x5)), d6, (some (.inl x7)), (some (.inl x8)), d9, d10, d11, (some (.inl x12)), d13] [(.inl y0)] w r o
def K275_337 (d2 : Option AV) (x3 : Int) (x4 : Int) (x5 : Int) (x6 : Int) (x7 : Int) (x8 : Int) (x9 : Int) (x10 : Int) (d11 : Option AV) (x12 : Int) (d13 : Option AV) (w : WS) (r : Nat) (o : Ro) : Prop := Lg 275 337 [(some (.inr (.inr (some 0)))), (some (.inr (.inr (some 682)))), d2, (some (.inl x3)), (some (.inl x4)), (some (.inl x5)), (some (.inl x6)), (some (.inl x7)), (some (.inl x8)), (some (.inl x9)), (some (.inl x10)), d11, (some (.inl x12)), d13] [] w r o
def K275_333 (d2 : Option AV) (x3 : Int) (x4 : Int) (x5 : Int) (x6 : Int) (x7 : Int) (x8 : Int) (x9 : Int) (x10 : Int) (d11 : Option AV) (x12 : Int) (d13 : Option AV) (w : WS) (r : Nat) (o : Ro) : Prop := Lg 275 333 [(some (.inr (.inr (some 0)))), (some (.inr (.inr (some 682)))), d2, (some (.inl x3)), (some (.inl x4)), (some (.inl x5)), (some (.inl x6)), (some (.inl x7)), (some (.inl x8)), (some (.inl x9)), (some (.inl x10)), d11, (some (.inl x12)), d13] [] w r o
def K275_420 (d2 : Option AV) (x3 : Int) (d4 : Option AV) (x5 : Int) (d6 : Option AV) (x7 : Int) (x8 : Int) (d9 : Option AV) (d10 : Option AV) (x11 : Int) (x12 : Int) (x13 : Int) (w : WS) (r : Nat) (o : Ro) : Prop := Lg 275 420 [(some (.inr (.inr (some 0)))), (some (.inr (.inr (some 682)))), d2, (some (.inl x3)), d4, (some (.inl x5)), d6, (some (.inl x7)), (some (.inl x8)), d9, d10, (some (.inl x11)), (some (.inl x12)), (some (.inl x13))] [] w r o
def K275_338 (d2 : Option AV) (x3 : Int) (x4 : Int) (x5 : Int) (x6 : Int) (x7 : Int) (x8 : Int) (x9 : Int) (x10 : Int) (d11 : Option AV) (x12 : Int) (d13 : Option AV) (y0 : Int) (w : WS) (r : Nat) (o : Ro) : Prop := Lg 275 338 [(some (.inr (.inr (some 0)))), (some (.inr (.inr (some 682)))), d2, (some (.inl x3)), (some (.inl x4)), (some (.inl x5)), (some (.inl x6)), (some (.inl x7)), (some (.inl x8)), (some (.inl x9)), (some (.inl x10)), d11, (some (.inl x12)), d13] [(.inl y0)] w r o
def K275_464 (d2 : Option AV) (x3 : Int) (d4 : Option AV) (d5 : Option AV) (d6 : Option AV) (x7 : Int) (d8 : Option AV) (d9 : Option AV) (d10 : Option AV) (x11 : Int) (d12 : Option AV) (d13 : Option AV) (w : WS) (r : Nat) (o : Ro) : Prop := Lg 275 464 [(some (.inr (.inr (some 0)))), (some (.inr (.inr (some 682)))), d2, (some (.inl x3)), d4, d5, d6, (some (.inl x7)), d8, d9, d10, (some (.inl x11)), d12, d13] [] w r o
def K275_456 (d2 : Option AV) (x3 : Int) (d4 : Option AV) (x5 : Int) (d6 : Option AV) (x7 : Int) (x8 : Int) (d9 : Option AV) (d10 : Option AV) (d11 : Option AV) (x12 : Int) (x13 : Int) (y0 : Int) (w : WS) (r : Nat) (o : Ro) : Prop := Lg 275 456 [(some (.inr (.inr (some 0)))), (some (.inr (.inr (some 682)))), d2, (some (.inl x3)), d4, (some (.inl x5)), d6, (some (.inl x7)), (some (.inl x8)), d9, d10, d11, (some (.inl x12)), (some (.inl x13))] [(.inl y0)] w r o
def K275_499 (d0 : Option AV) (d1 : Option AV) (d2 : Option AV) (d3 : Option AV) (d4 : Option AV) (d5 : Option AV) (d6 : Option AV) (d7 : Option AV) (d8 : Option AV) (d9 : Option AV) (d10 : Option AV) (d11 : Option AV) (d12 : Option AV) (d13 : Option AV) (w : WS) (r : Nat) (o : Ro) : Prop := Lg 275 499 [d0, d1, d2, d3, d4, d5, d6, d7, d8, d9, d10, d11, d12, d13] [] w r o
def K275_495 (d0 : Option AV) (d1 : Option AV) (d2 : Option AV) (d3 : Option AV) (d4 : Option AV) (d5 : Option AV) (d6 : Option AV) (d7 : Option AV) (d8 : Option AV) (d9 : Option AV) (d10 : Option AV) (d11 : Option AV) (d12 : Option AV) (d13 : Option AV) (w : WS) (r : Nat) (o : Ro) : Prop := Lg 275 495 [d0, d1, d2, d3, d4, d5, d6, d7, d8, d9, d10, d11, d12, d13] [] w r o
def K275_500 (d0 : Option AV) (d1 : Option AV) (d2 : Option AV) (d3 : Option AV) (d4 : Option AV) (d5 : Option AV) (d6 : Option AV) (d7 : Option AV) (d8 : Option AV) (d9 : Option AV) (d10 : Option AV) (d11 : Option AV) (d12 : Option AV) (d13 : Option AV) (y0 : Int) (w : WS) (r : Nat) (o : Ro) : Prop := Lg 275 500 [d0, d1, d2, d3, d4, d5, d6, d7, d8, d9, d10, d11, d12, d13] [(.inl y0)] w r o
theorem bK275_45 {d1 : Option AV} {d2 : Option AV} {x3 : Int} {x4 : Int} {d5 : Option AV} {d6 : Option AV} {d7 : Option AV} {d8 : Option AV} {d9 : Option AV} {d10 : Option AV} {d11 : Option AV} {d12 : Option AV} {d13 : Option AV} {w : WS} {r : Nat} {o : Ro} (h : K275_50 d1 d2 x3 x4 d5 d6 d7 d8 d9 d10 d11 d12 d13 1 w r o) : K275_45 d1 d2 x3 x4 d5 d6 d7 d8 d9 d10 d11 d12 d13 w r o := by
  show Lg 275 45 [(some (.inr (.inr (some 0)))), d1, d2, (some (.inl x3)), (some (.inl x4)), d5, d6, d7, d8, d9, d10, d11, d12, d13] [] w r o
  refine zq_iconst 46 (show zop 275 45 = some (.iconst 1, 1) by decide +kernel) rfl rfl ?_
  refine zq_goto 50 (show zop 275 46 = some (.goto 4, 3) by decide +kernel) rfl ?_
  exact h
theorem bK275_50 {d1 : Option AV} {d2 : Option AV} {x3 : Int} {x4 : Int} {d5 : Option AV} {d6 : Option AV} {d7 : Option AV} {d8 : Option AV} {d9 : Option AV} {d10 : Option AV} {d11 : Option AV} {d12 : Option AV} {d13 : Option AV} {y0 : Int} {w : WS} {r : Nat} {o : Ro} (h : K275_55 d1 d2 x3 x4 d5 d6 y0 0 d9 d10 d11 d12 d13 w r o) : K275_50 d1 d2 x3 x4 d5 d6 d7 d8 d9 d10 d11 d12 d13 y0 w r o := by
  show Lg 275 50 [(some (.inr (.inr (some 0)))), d1, d2, (some (.inl x3)), (some (.inl x4)), d5, d6, d7, d8, d9, d10, d11, d12, d13] [(.inl y0)] w r o
  refine zq_istore 52 [(some (.inr (.inr (some 0)))), d1, d2, (some (.inl x3)), (some (.inl x4)), d5, d6, (some (.inl y0)), d8, d9, d10, d11, d12, d13] (show zop 275 50 = some (.istore 7, 2) by decide +kernel) rfl rfl rfl ?_
  refine zq_iconst 53 (show zop 275 52 = some (.iconst 0, 1) by decide +kernel) rfl rfl ?_
  refine zq_istore 55 [(some (.inr (.inr (some 0)))), d1, d2, (some (.inl x3)), (some (.inl x4)), d5, d6, (some (.inl y0)), (some (.inl 0)), d9, d10, d11, d12, d13] (show zop 275 53 = some (.istore 8, 2) by decide +kernel) rfl rfl rfl ?_
  exact h
theorem bK275_168 {d0 : Option AV} {d1 : Option AV} {d2 : Option AV} {d3 : Option AV} {d4 : Option AV} {d5 : Option AV} {d6 : Option AV} {d7 : Option AV} {d8 : Option AV} {d9 : Option AV} {d10 : Option AV} {d11 : Option AV} {d12 : Option AV} {d13 : Option AV} {y0 : Int} {w : WS} {r : Nat} {o : Ro} (h : (y0 = 0 ∨ y0 = 1) ∧ o = (.inl (some (.inl y0)), w)) : K275_168 d0 d1 d2 d3 d4 d5 d6 d7 d8 d9 d10 d11 d12 d13 y0 w r o := by
  show Lg 275 168 [d0, d1, d2, d3, d4, d5, d6, d7, d8, d9, d10, d11, d12, d13] [(.inl y0)] w r o
  obtain ⟨g1, h⟩ := h
  exact (zq_zret (show zop 275 168 = some (.ireturn, 1) by decide +kernel) (by decide +kernel) g1 h)
theorem bK275_213 {d2 : Option AV} {x3 : Int} {x4 : Int} {x5 : Int} {x6 : Int} {x7 : Int} {x8 : Int} {x9 : Int} {x10 : Int} {d11 : Option AV} {d12 : Option AV} {d13 : Option AV} {y0 : Int} {w : WS} {r : Nat} {o : Ro} (h : K275_218 d2 x3 x4 x5 x6 x7 x8 x9 x10 y0 0 d13 w r o) : K275_213 d2 x3 x4 x5 x6 x7 x8 x9 x10 d11 d12 d13 y0 w r o := by
  show Lg 275 213 [(some (.inr (.inr (some 0)))), (some (.inr (.inr (some 682)))), d2, (some (.inl x3)), (some (.inl x4)), (some (.inl x5)), (some (.inl x6)), (some (.inl x7)), (some (.inl x8)), (some (.inl x9)), (some (.inl x10)), d11, d12, d13] [(.inl y0)] w r o
  refine zq_istore 215 [(some (.inr (.inr (some 0)))), (some (.inr (.inr (some 682)))), d2, (some (.inl x3)), (some (.inl x4)), (some (.inl x5)), (some (.inl x6)), (some (.inl x7)), (some (.inl x8)), (some (.inl x9)), (some (.inl x10)), (some (.inl y0)), d12, d13] (show zop 275 213 = some (.istore 11, 2) by decide +kernel) rfl rfl rfl ?_
  refine zq_iconst 216 (show zop 275 215 = some (.iconst 0, 1) by decide +kernel) rfl rfl ?_
  refine zq_istore 218 [(some (.inr (.inr (some 0)))), (some (.inr (.inr (some 682)))), d2, (some (.inl x3)), (some (.inl x4)), (some (.inl x5)), (some (.inl x6)), (some (.inl x7)), (some (.inl x8)), (some (.inl x9)), (some (.inl x10)), (some (.inl y0)), (some (.inl 0)), d13] (show zop 275 216 = some (.istore 12, 2) by decide +kernel) rfl rfl rfl ?_
  exact h
theorem bK275_55 {d1 : Option AV} {d2 : Option AV} {x3 : Int} {x4 : Int} {d5 : Option AV} {d6 : Option AV} {x7 : Int} {x8 : Int} {d9 : Option AV} {d10 : Option AV} {d11 : Option AV} {d12 : Option AV} {d13 : Option AV} {w : WS} {r : Nat} {o : Ro} (h : (-2147483648 ≤ (1 + (Int.tmod x3 8)) ∧ (1 + (Int.tmod x3 8)) ≤ 2147483647) ∧ (if x8 < (1 + (Int.tmod x3 8)) then (if x7 = 0 then K275_134 (some (.inr (.inr (some 0)))) d1 d2 (some (.inl x3)) (some (.inl x4)) d5 d6 x7 (some (.inl x8)) d9 d10 d11 d12 d13 w r o else (90 ≤ r) ∧ (∃ (v3 : Int) (w2 : WS), Lx 274 [(.inr (.inr (some 0))), (.inl x4)] w (.inl (some (.inl v3)), w2) ∧ (3 ≤ (r - 90)) ∧ (∃ (v7 : Int) (s6 : Sg), Dc 219 [(.inr (.inr (some 0))), (.inl x4), (.inl (iAnd (iShr (Int.tdiv x3 8) x8) 3))] w2.2.2 (.inl (some (.inl v7))) s6 ∧ (-2147483648 ≤ (v3 + 1) ∧ (v3 + 1) ≤ 2147483647) ∧ (if v7 = (v3 + 1) then (2 ≤ ((r - 90) - 3)) ∧ (∃ (v12 : Int) (s11 : Sg), Dc 221 [(.inr (.inr (some 0))), (.inl x4), (.inl v3)] (wS w2 s6).2.2 (.inl (some (.inl v12))) s11 ∧ (if v12 = (iAnd (iShr (Int.tdiv x3 8) x8) 3) then K275_126 d1 d2 x3 x4 d5 d6 (some (.inl x7)) x8 (some (.inl v3)) d10 d11 d12 d13 1 (wS (wS w2 s6) s11) (((r - 90) - 3) - 2) o else K275_125 d1 d2 x3 x4 d5 d6 (some (.inl x7)) x8 (some (.inl v3)) d10 d11 d12 d13 (wS (wS w2 s6) s11) (((r - 90) - 3) - 2) o)) else K275_125 d1 d2 x3 x4 d5 d6 (some (.inl x7)) x8 (some (.inl v3)) d10 d11 d12 d13 (wS w2 s6) ((r - 90) - 3) o)))) else K275_134 (some (.inr (.inr (some 0)))) d1 d2 (some (.inl x3)) (some (.inl x4)) d5 d6 x7 (some (.inl x8)) d9 d10 d11 d12 d13 w r o)) : K275_55 d1 d2 x3 x4 d5 d6 x7 x8 d9 d10 d11 d12 d13 w r o := by
  show Lg 275 55 [(some (.inr (.inr (some 0)))), d1, d2, (some (.inl x3)), (some (.inl x4)), d5, d6, (some (.inl x7)), (some (.inl x8)), d9, d10, d11, d12, d13] [] w r o
  refine zq_iload 57 (show zop 275 55 = some (.iload 8, 2) by decide +kernel) rfl rfl ?_
  refine zq_iconst 58 (show zop 275 57 = some (.iconst 1, 1) by decide +kernel) rfl rfl ?_
  refine zq_iload_n 59 (show zop 275 58 = some (.iload_n 3, 1) by decide +kernel) rfl rfl ?_
  refine zq_bipush 61 (show zop 275 59 = some (.bipush 8, 2) by decide +kernel) rfl (by decide) ?_
  refine zq_irem 62 (show zop 275 61 = some (.irem, 1) by decide +kernel) rfl (by decide) ?_
  obtain ⟨g1, h⟩ := h
  refine zq_iadd 63 (show zop 275 62 = some (.iadd, 1) by decide +kernel) rfl g1 ?_
  by_cases hc15 : x8 < (1 + (Int.tmod x3 8))
  · rw [if_pos hc15] at h
    refine zq_icmpF 66 134 (show zop 275 63 = some (.if_icmp .ge 71, 3) by decide +kernel) rfl rfl (decide_eq_false (Int.not_le.mpr hc15)) ?_
    refine zq_iload 68 (show zop 275 66 = some (.iload 7, 2) by decide +kernel) rfl rfl ?_
    by_cases hc16 : x7 = 0
    · rw [if_pos hc16] at h
      refine zq_ifT 134 (show zop 275 68 = some (.ifCond .eq 66, 3) by decide +kernel) rfl (decide_eq_true hc16) ?_
      exact h
    · rw [if_neg hc16] at h
      refine zq_ifF 71 134 (show zop 275 68 = some (.ifCond .eq 66, 3) by decide +kernel) rfl rfl (decide_eq_false hc16) ?_
      refine zq_aload_n 72 (show zop 275 71 = some (.aload_n 0, 1) by decide +kernel) rfl rfl ?_
      refine zq_iload 74 (show zop 275 72 = some (.iload 4, 2) by decide +kernel) rfl rfl ?_
      obtain ⟨g5, h⟩ := h
      obtain ⟨v3, w2, hD4, h⟩ := h
      refine zq_lx (v := some (.inl v3)) (w' := w2) (nj := 2) (j := 274) (c := 90) (t := []) (as := [(.inr (.inr (some 0))), (.inl x4)]) 77 [(.inl v3)] (show zop 275 74 = some (.invokestatic 276, 3) by decide +kernel) (by decide +kernel) rfl (by decide +kernel) (by decide +kernel) rfl rfl rfl rfl rfl hD4 rfl g5 ?_
      refine zq_istore 79 [(some (.inr (.inr (some 0)))), d1, d2, (some (.inl x3)), (some (.inl x4)), d5, d6, (some (.inl x7)), (some (.inl x8)), (some (.inl v3)), d10, d11, d12, d13] (show zop 275 77 = some (.istore 9, 2) by decide +kernel) rfl rfl rfl ?_
      refine zq_aload_n 80 (show zop 275 79 = some (.aload_n 0, 1) by decide +kernel) rfl rfl ?_
      refine zq_iload 82 (show zop 275 80 = some (.iload 4, 2) by decide +kernel) rfl rfl ?_
      refine zq_iload_n 83 (show zop 275 82 = some (.iload_n 3, 1) by decide +kernel) rfl rfl ?_
      refine zq_bipush 85 (show zop 275 83 = some (.bipush 8, 2) by decide +kernel) rfl (by decide) ?_
      refine zq_idiv 86 (show zop 275 85 = some (.idiv, 1) by decide +kernel) rfl (by decide) ?_
      refine zq_iload 88 (show zop 275 86 = some (.iload 8, 2) by decide +kernel) rfl rfl ?_
      refine zq_ishr 89 (show zop 275 88 = some (.ishr, 1) by decide +kernel) rfl ?_
      refine zq_iconst 90 (show zop 275 89 = some (.iconst 3, 1) by decide +kernel) rfl rfl ?_
      refine zq_iand 91 (show zop 275 90 = some (.iand, 1) by decide +kernel) rfl ?_
      obtain ⟨g9, h⟩ := h
      obtain ⟨v7, s6, hD8, h⟩ := h
      refine zq_vi (v := some (.inl v7)) (σ' := s6) (nj := 3) (j := 219) (c := 3) (t := []) (as := [(.inr (.inr (some 0))), (.inl x4), (.inl (iAnd (iShr (Int.tdiv x3 8) x8) 3))]) 94 [(.inl v7)] (show zop 275 91 = some (.invokevirtual 282, 3) by decide +kernel) (by decide +kernel) rfl (by decide +kernel) rfl rfl rfl rfl rfl rfl (by decide +kernel) (by decide +kernel) (clS_0 rfl) hD8 rfl g9 ?_
      refine zq_iload 96 (show zop 275 94 = some (.iload 9, 2) by decide +kernel) rfl rfl ?_
      refine zq_iconst 97 (show zop 275 96 = some (.iconst 1, 1) by decide +kernel) rfl rfl ?_
      obtain ⟨g10, h⟩ := h
      refine zq_iadd 98 (show zop 275 97 = some (.iadd, 1) by decide +kernel) rfl g10 ?_
      by_cases hc17 : v7 = (v3 + 1)
      · rw [if_pos hc17] at h
        refine zq_icmpF 101 125 (show zop 275 98 = some (.if_icmp .ne 27, 3) by decide +kernel) rfl rfl (decide_eq_false (fun h9 => h9 hc17)) ?_
        refine zq_aload_n 102 (show zop 275 101 = some (.aload_n 0, 1) by decide +kernel) rfl rfl ?_
        refine zq_iload 104 (show zop 275 102 = some (.iload 4, 2) by decide +kernel) rfl rfl ?_
        refine zq_iload 106 (show zop 275 104 = some (.iload 9, 2) by decide +kernel) rfl rfl ?_
        obtain ⟨g14, h⟩ := h
        obtain ⟨v12, s11, hD13, h⟩ := h
        refine zq_vi (v := some (.inl v12)) (σ' := s11) (nj := 3) (j := 221) (c := 2) (t := []) (as := [(.inr (.inr (some 0))), (.inl x4), (.inl v3)]) 109 [(.inl v12)] (show zop 275 106 = some (.invokevirtual 273, 3) by decide +kernel) (by decide +kernel) rfl (by decide +kernel) rfl rfl rfl rfl rfl rfl (by decide +kernel) (by decide +kernel) (clS_0 rfl) hD13 rfl g14 ?_
        refine zq_iload_n 110 (show zop 275 109 = some (.iload_n 3, 1) by decide +kernel) rfl rfl ?_
        refine zq_bipush 112 (show zop 275 110 = some (.bipush 8, 2) by decide +kernel) rfl (by decide) ?_
        refine zq_idiv 113 (show zop 275 112 = some (.idiv, 1) by decide +kernel) rfl (by decide) ?_
        refine zq_iload 115 (show zop 275 113 = some (.iload 8, 2) by decide +kernel) rfl rfl ?_
        refine zq_ishr 116 (show zop 275 115 = some (.ishr, 1) by decide +kernel) rfl ?_
        refine zq_iconst 117 (show zop 275 116 = some (.iconst 3, 1) by decide +kernel) rfl rfl ?_
        refine zq_iand 118 (show zop 275 117 = some (.iand, 1) by decide +kernel) rfl ?_
        by_cases hc18 : v12 = (iAnd (iShr (Int.tdiv x3 8) x8) 3)
        · rw [if_pos hc18] at h
          refine zq_icmpF 121 125 (show zop 275 118 = some (.if_icmp .ne 7, 3) by decide +kernel) rfl rfl (decide_eq_false (fun h9 => h9 hc18)) ?_
          refine zq_iconst 122 (show zop 275 121 = some (.iconst 1, 1) by decide +kernel) rfl rfl ?_
          refine zq_goto 126 (show zop 275 122 = some (.goto 4, 3) by decide +kernel) rfl ?_
          exact h
        · rw [if_neg hc18] at h
          refine zq_icmpT 125 (show zop 275 118 = some (.if_icmp .ne 7, 3) by decide +kernel) rfl (decide_eq_true hc18) ?_
          exact h
      · rw [if_neg hc17] at h
        refine zq_icmpT 125 (show zop 275 98 = some (.if_icmp .ne 27, 3) by decide +kernel) rfl (decide_eq_true hc17) ?_
        exact h
  · rw [if_neg hc15] at h
    refine zq_icmpT 134 (show zop 275 63 = some (.if_icmp .ge 71, 3) by decide +kernel) rfl (decide_eq_true (Int.not_lt.mp hc15)) ?_
    exact h
theorem bK275_218 {d2 : Option AV} {x3 : Int} {x4 : Int} {x5 : Int} {x6 : Int} {x7 : Int} {x8 : Int} {x9 : Int} {x10 : Int} {x11 : Int} {x12 : Int} {d13 : Option AV} {w : WS} {r : Nat} {o : Ro} (h : (2 ≤ r) ∧ (∃ (v2 : Int) (s1 : Sg), Dc 225 [(.inr (.inr (some 0))), (.inl x7), (.inl x12)] w.2.2 (.inl (some (.inl v2))) s1 ∧ (if v2 = (-1) then (if x11 = 0 then K275_373 d2 x3 x4 x5 (some (.inl x6)) x7 x8 (some (.inl x9)) (some (.inl x10)) (some (.inl x11)) (some (.inl x12)) d13 (wS w s1) (r - 2) o else (if x9 = x8 then (1 ≤ (r - 2)) ∧ (∃ (v6 : Int) (s5 : Sg), Dc 224 [(.inr (.inr (some 0))), (.inl x7)] (wS w s1).2.2 (.inl (some (.inl v6))) s5 ∧ (if x10 = v6 then K275_374 d2 x3 x4 x5 (some (.inl x6)) x7 x8 (some (.inl x9)) (some (.inl x10)) (some (.inl x11)) (some (.inl x12)) d13 1 (wS (wS w s1) s5) ((r - 2) - 1) o else K275_373 d2 x3 x4 x5 (some (.inl x6)) x7 x8 (some (.inl x9)) (some (.inl x10)) (some (.inl x11)) (some (.inl x12)) d13 (wS (wS w s1) s5) ((r - 2) - 1) o)) else K275_373 d2 x3 x4 x5 (some (.inl x6)) x7 x8 (some (.inl x9)) (some (.inl x10)) (some (.inl x11)) (some (.inl x12)) d13 (wS w s1) (r - 2) o)) else (2 ≤ (r - 2)) ∧ (∃ (v10 : Int) (s9 : Sg), Dc 225 [(.inr (.inr (some 0))), (.inl x7), (.inl x12)] (wS w s1).2.2 (.inl (some (.inl v10))) s9 ∧ (-2147483648 ≤ (x9 + (Int.tdiv v10 1000)) ∧ (x9 + (Int.tdiv v10 1000)) ≤ 2147483647) ∧ (¬ ((Int.tmod v10 1000) < 500) → -2147483648 ≤ (1 + (Int.tdiv v10 1000)) ∧ (1 + (Int.tdiv v10 1000)) ≤ 2147483647) ∧ K275_277 d2 x3 x4 x5 x6 x7 x8 (x9 + (Int.tdiv v10 1000)) (some (.inl x10)) x11 x12 v10 x10 (if (Int.tmod v10 1000) < 500 then 3 else (1 + (Int.tdiv v10 1000))) (wS (wS w s1) s9) ((r - 2) - 2) o)))) : K275_218 d2 x3 x4 x5 x6 x7 x8 x9 x10 x11 x12 d13 w r o := by
  show Lg 275 218 [(some (.inr (.inr (some 0)))), (some (.inr (.inr (some 682)))), d2, (some (.inl x3)), (some (.inl x4)), (some (.inl x5)), (some (.inl x6)), (some (.inl x7)), (some (.inl x8)), (some (.inl x9)), (some (.inl x10)), (some (.inl x11)), (some (.inl x12)), d13] [] w r o
  refine zq_aload_n 219 (show zop 275 218 = some (.aload_n 0, 1) by decide +kernel) rfl rfl ?_
  refine zq_iload 221 (show zop 275 219 = some (.iload 7, 2) by decide +kernel) rfl rfl ?_
  refine zq_iload 223 (show zop 275 221 = some (.iload 12, 2) by decide +kernel) rfl rfl ?_
  obtain ⟨g4, h⟩ := h
  obtain ⟨v2, s1, hD3, h⟩ := h
  refine zq_vi (v := some (.inl v2)) (σ' := s1) (nj := 3) (j := 225) (c := 2) (t := []) (as := [(.inr (.inr (some 0))), (.inl x7), (.inl x12)]) 226 [(.inl v2)] (show zop 275 223 = some (.invokevirtual 291, 3) by decide +kernel) (by decide +kernel) rfl (by decide +kernel) rfl rfl rfl rfl rfl rfl (by decide +kernel) (by decide +kernel) (clS_0 rfl) hD3 rfl g4 ?_
  refine zq_iconst 227 (show zop 275 226 = some (.iconst (-1), 1) by decide +kernel) rfl rfl ?_
  by_cases hc15 : v2 = (-1)
  · rw [if_pos hc15] at h
    refine zq_icmpT 346 (show zop 275 227 = some (.if_icmp .eq 119, 3) by decide +kernel) rfl (decide_eq_true hc15) ?_
    refine zq_iload 348 (show zop 275 346 = some (.iload 11, 2) by decide +kernel) rfl rfl ?_
    by_cases hc16 : x11 = 0
    · rw [if_pos hc16] at h
      refine zq_ifT 373 (show zop 275 348 = some (.ifCond .eq 25, 3) by decide +kernel) rfl (decide_eq_true hc16) ?_
      exact h
    · rw [if_neg hc16] at h
      refine zq_ifF 351 373 (show zop 275 348 = some (.ifCond .eq 25, 3) by decide +kernel) rfl rfl (decide_eq_false hc16) ?_
      refine zq_iload 353 (show zop 275 351 = some (.iload 9, 2) by decide +kernel) rfl rfl ?_
      refine zq_iload 355 (show zop 275 353 = some (.iload 8, 2) by decide +kernel) rfl rfl ?_
      by_cases hc17 : x9 = x8
      · rw [if_pos hc17] at h
        refine zq_icmpF 358 373 (show zop 275 355 = some (.if_icmp .ne 18, 3) by decide +kernel) rfl rfl (decide_eq_false (fun h9 => h9 hc17)) ?_
        refine zq_iload 360 (show zop 275 358 = some (.iload 10, 2) by decide +kernel) rfl rfl ?_
        refine zq_aload_n 361 (show zop 275 360 = some (.aload_n 0, 1) by decide +kernel) rfl rfl ?_
        refine zq_iload 363 (show zop 275 361 = some (.iload 7, 2) by decide +kernel) rfl rfl ?_
        obtain ⟨g8, h⟩ := h
        obtain ⟨v6, s5, hD7, h⟩ := h
        refine zq_vi (v := some (.inl v6)) (σ' := s5) (nj := 2) (j := 224) (c := 1) (t := [(.inl x10)]) (as := [(.inr (.inr (some 0))), (.inl x7)]) 366 [(.inl v6), (.inl x10)] (show zop 275 363 = some (.invokevirtual 294, 3) by decide +kernel) (by decide +kernel) rfl (by decide +kernel) rfl rfl rfl rfl rfl rfl (by decide +kernel) (by decide +kernel) (clS_0 rfl) hD7 rfl g8 ?_
        by_cases hc18 : x10 = v6
        · rw [if_pos hc18] at h
          refine zq_icmpF 369 373 (show zop 275 366 = some (.if_icmp .ne 7, 3) by decide +kernel) rfl rfl (decide_eq_false (fun h9 => h9 hc18)) ?_
          refine zq_iconst 370 (show zop 275 369 = some (.iconst 1, 1) by decide +kernel) rfl rfl ?_
          refine zq_goto 374 (show zop 275 370 = some (.goto 4, 3) by decide +kernel) rfl ?_
          exact h
        · rw [if_neg hc18] at h
          refine zq_icmpT 373 (show zop 275 366 = some (.if_icmp .ne 7, 3) by decide +kernel) rfl (decide_eq_true hc18) ?_
          exact h
      · rw [if_neg hc17] at h
        refine zq_icmpT 373 (show zop 275 355 = some (.if_icmp .ne 18, 3) by decide +kernel) rfl (decide_eq_true hc17) ?_
        exact h
  · rw [if_neg hc15] at h
    refine zq_icmpF 230 346 (show zop 275 227 = some (.if_icmp .eq 119, 3) by decide +kernel) rfl rfl (decide_eq_false hc15) ?_
    refine zq_aload_n 231 (show zop 275 230 = some (.aload_n 0, 1) by decide +kernel) rfl rfl ?_
    refine zq_iload 233 (show zop 275 231 = some (.iload 7, 2) by decide +kernel) rfl rfl ?_
    refine zq_iload 235 (show zop 275 233 = some (.iload 12, 2) by decide +kernel) rfl rfl ?_
    obtain ⟨g12, h⟩ := h
    obtain ⟨v10, s9, hD11, h⟩ := h
    refine zq_vi (v := some (.inl v10)) (σ' := s9) (nj := 3) (j := 225) (c := 2) (t := []) (as := [(.inr (.inr (some 0))), (.inl x7), (.inl x12)]) 238 [(.inl v10)] (show zop 275 235 = some (.invokevirtual 291, 3) by decide +kernel) (by decide +kernel) rfl (by decide +kernel) rfl rfl rfl rfl rfl rfl (by decide +kernel) (by decide +kernel) (clS_0 rfl) hD11 rfl g12 ?_
    refine zq_istore 240 [(some (.inr (.inr (some 0)))), (some (.inr (.inr (some 682)))), d2, (some (.inl x3)), (some (.inl x4)), (some (.inl x5)), (some (.inl x6)), (some (.inl x7)), (some (.inl x8)), (some (.inl x9)), (some (.inl x10)), (some (.inl x11)), (some (.inl x12)), (some (.inl v10))] (show zop 275 238 = some (.istore 13, 2) by decide +kernel) rfl rfl rfl ?_
    refine zq_iload 242 (show zop 275 240 = some (.iload 9, 2) by decide +kernel) rfl rfl ?_
    refine zq_iload 244 (show zop 275 242 = some (.iload 13, 2) by decide +kernel) rfl rfl ?_
    refine zq_sipush 247 (show zop 275 244 = some (.sipush 1000, 3) by decide +kernel) rfl (by decide) ?_
    refine zq_idiv 248 (show zop 275 247 = some (.idiv, 1) by decide +kernel) rfl (by decide) ?_
    obtain ⟨g13, h⟩ := h
    refine zq_iadd 249 (show zop 275 248 = some (.iadd, 1) by decide +kernel) rfl g13 ?_
    refine zq_istore 251 [(some (.inr (.inr (some 0)))), (some (.inr (.inr (some 682)))), d2, (some (.inl x3)), (some (.inl x4)), (some (.inl x5)), (some (.inl x6)), (some (.inl x7)), (some (.inl x8)), (some (.inl (x9 + (Int.tdiv v10 1000)))), (some (.inl x10)), (some (.inl x11)), (some (.inl x12)), (some (.inl v10))] (show zop 275 249 = some (.istore 9, 2) by decide +kernel) rfl rfl rfl ?_
    refine zq_iload 253 (show zop 275 251 = some (.iload 10, 2) by decide +kernel) rfl rfl ?_
    refine zq_iload 255 (show zop 275 253 = some (.iload 13, 2) by decide +kernel) rfl rfl ?_
    refine zq_sipush 258 (show zop 275 255 = some (.sipush 1000, 3) by decide +kernel) rfl (by decide) ?_
    refine zq_irem 259 (show zop 275 258 = some (.irem, 1) by decide +kernel) rfl (by decide) ?_
    refine zq_sipush 262 (show zop 275 259 = some (.sipush 500, 3) by decide +kernel) rfl (by decide) ?_
    obtain ⟨G20, h⟩ := h
    by_cases hc19 : (Int.tmod v10 1000) < 500
    · refine zq_icmpF 265 269 (show zop 275 262 = some (.if_icmp .ge 7, 3) by decide +kernel) rfl rfl (decide_eq_false (Int.not_le.mpr hc19)) ?_
      refine zq_iconst 266 (show zop 275 265 = some (.iconst 3, 1) by decide +kernel) rfl rfl ?_
      refine zq_goto 277 (show zop 275 266 = some (.goto 11, 3) by decide +kernel) rfl ?_
      have h9 := h; simp only [if_pos hc19] at h9; exact h9
    · refine zq_icmpT 269 (show zop 275 262 = some (.if_icmp .ge 7, 3) by decide +kernel) rfl (decide_eq_true (Int.not_lt.mp hc19)) ?_
      refine zq_iconst 270 (show zop 275 269 = some (.iconst 1, 1) by decide +kernel) rfl rfl ?_
      refine zq_iload 272 (show zop 275 270 = some (.iload 13, 2) by decide +kernel) rfl rfl ?_
      refine zq_sipush 275 (show zop 275 272 = some (.sipush 1000, 3) by decide +kernel) rfl (by decide) ?_
      refine zq_idiv 276 (show zop 275 275 = some (.idiv, 1) by decide +kernel) rfl (by decide) ?_
      have g14 := G20 hc19
      refine zq_iadd 277 (show zop 275 276 = some (.iadd, 1) by decide +kernel) rfl g14 ?_
      have h9 := h; simp only [if_neg hc19] at h9; exact h9
theorem bK275_134 {d0 : Option AV} {d1 : Option AV} {d2 : Option AV} {d3 : Option AV} {d4 : Option AV} {d5 : Option AV} {d6 : Option AV} {x7 : Int} {d8 : Option AV} {d9 : Option AV} {d10 : Option AV} {d11 : Option AV} {d12 : Option AV} {d13 : Option AV} {w : WS} {r : Nat} {o : Ro} (h : (x7 = 0 ∨ x7 = 1) ∧ o = (.inl (some (.inl x7)), w)) : K275_134 d0 d1 d2 d3 d4 d5 d6 x7 d8 d9 d10 d11 d12 d13 w r o := by
  show Lg 275 134 [d0, d1, d2, d3, d4, d5, d6, (some (.inl x7)), d8, d9, d10, d11, d12, d13] [] w r o
  refine zq_iload 136 (show zop 275 134 = some (.iload 7, 2) by decide +kernel) rfl rfl ?_
  obtain ⟨g1, h⟩ := h
  exact (zq_zret (show zop 275 136 = some (.ireturn, 1) by decide +kernel) (by decide +kernel) g1 h)
theorem bK275_126 {d1 : Option AV} {d2 : Option AV} {x3 : Int} {x4 : Int} {d5 : Option AV} {d6 : Option AV} {d7 : Option AV} {x8 : Int} {d9 : Option AV} {d10 : Option AV} {d11 : Option AV} {d12 : Option AV} {d13 : Option AV} {y0 : Int} {w : WS} {r : Nat} {o : Ro} (h : (-2147483648 ≤ (x8 + 1) ∧ (x8 + 1) ≤ 2147483647) ∧ K275_55 d1 d2 x3 x4 d5 d6 y0 (x8 + 1) d9 d10 d11 d12 d13 w r o) : K275_126 d1 d2 x3 x4 d5 d6 d7 x8 d9 d10 d11 d12 d13 y0 w r o := by
  show Lg 275 126 [(some (.inr (.inr (some 0)))), d1, d2, (some (.inl x3)), (some (.inl x4)), d5, d6, d7, (some (.inl x8)), d9, d10, d11, d12, d13] [(.inl y0)] w r o
  refine zq_istore 128 [(some (.inr (.inr (some 0)))), d1, d2, (some (.inl x3)), (some (.inl x4)), d5, d6, (some (.inl y0)), (some (.inl x8)), d9, d10, d11, d12, d13] (show zop 275 126 = some (.istore 7, 2) by decide +kernel) rfl rfl rfl ?_
  obtain ⟨g1, h⟩ := h
  refine zq_iinc 131 [(some (.inr (.inr (some 0)))), d1, d2, (some (.inl x3)), (some (.inl x4)), d5, d6, (some (.inl y0)), (some (.inl (x8 + 1))), d9, d10, d11, d12, d13] (show zop 275 128 = some (.iinc 8 1, 3) by decide +kernel) rfl rfl g1 rfl ?_
  refine zq_goto 55 (show zop 275 131 = some (.goto (-76), 3) by decide +kernel) rfl ?_
  exact h
theorem bK275_125 {d1 : Option AV} {d2 : Option AV} {x3 : Int} {x4 : Int} {d5 : Option AV} {d6 : Option AV} {d7 : Option AV} {x8 : Int} {d9 : Option AV} {d10 : Option AV} {d11 : Option AV} {d12 : Option AV} {d13 : Option AV} {w : WS} {r : Nat} {o : Ro} (h : K275_126 d1 d2 x3 x4 d5 d6 d7 x8 d9 d10 d11 d12 d13 0 w r o) : K275_125 d1 d2 x3 x4 d5 d6 d7 x8 d9 d10 d11 d12 d13 w r o := by
  show Lg 275 125 [(some (.inr (.inr (some 0)))), d1, d2, (some (.inl x3)), (some (.inl x4)), d5, d6, d7, (some (.inl x8)), d9, d10, d11, d12, d13] [] w r o
  refine zq_iconst 126 (show zop 275 125 = some (.iconst 0, 1) by decide +kernel) rfl rfl ?_
  exact h
theorem bK275_373 {d2 : Option AV} {x3 : Int} {x4 : Int} {x5 : Int} {d6 : Option AV} {x7 : Int} {x8 : Int} {d9 : Option AV} {d10 : Option AV} {d11 : Option AV} {d12 : Option AV} {d13 : Option AV} {w : WS} {r : Nat} {o : Ro} (h : K275_374 d2 x3 x4 x5 d6 x7 x8 d9 d10 d11 d12 d13 0 w r o) : K275_373 d2 x3 x4 x5 d6 x7 x8 d9 d10 d11 d12 d13 w r o := by
  show Lg 275 373 [(some (.inr (.inr (some 0)))), (some (.inr (.inr (some 682)))), d2, (some (.inl x3)), (some (.inl x4)), (some (.inl x5)), d6, (some (.inl x7)), (some (.inl x8)), d9, d10, d11, d12, d13] [] w r o
  refine zq_iconst 374 (show zop 275 373 = some (.iconst 0, 1) by decide +kernel) rfl rfl ?_
  exact h
theorem bK275_374 {d2 : Option AV} {x3 : Int} {x4 : Int} {x5 : Int} {d6 : Option AV} {x7 : Int} {x8 : Int} {d9 : Option AV} {d10 : Option AV} {d11 : Option AV} {d12 : Option AV} {d13 : Option AV} {y0 : Int} {w : WS} {r : Nat} {o : Ro} (h : (-2147483648 ≤ (x5 + 1) ∧ (x5 + 1) ≤ 2147483647) ∧ (-2147483648 ≤ ((x5 + 1) + (Int.tmod (Int.tdiv x3 4) 3)) ∧ ((x5 + 1) + (Int.tmod (Int.tdiv x3 4) 3)) ≤ 2147483647) ∧ (if y0 = 0 then K275_414 d2 x3 (some (.inl x4)) x5 d6 x7 x8 d9 d10 (some (.inl y0)) (Int.tmod ((x5 + 1) + (Int.tmod (Int.tdiv x3 4) 3)) 4) d13 w r o else (4 ≤ r) ∧ (∃ (v4 : Int) (s3 : Sg), Dc 226 [(.inr (.inr (some 0))), (.inl x7), (.inl x4), (.inl (Int.tmod ((x5 + 1) + (Int.tmod (Int.tdiv x3 4) 3)) 4))] w.2.2 (.inl (some (.inl v4))) s3 ∧ (if v4 = x8 then K275_415 d2 x3 (some (.inl x4)) x5 d6 x7 x8 d9 d10 (some (.inl y0)) (Int.tmod ((x5 + 1) + (Int.tmod (Int.tdiv x3 4) 3)) 4) d13 1 (wS w s3) (r - 4) o else K275_414 d2 x3 (some (.inl x4)) x5 d6 x7 x8 d9 d10 (some (.inl y0)) (Int.tmod ((x5 + 1) + (Int.tmod (Int.tdiv x3 4) 3)) 4) d13 (wS w s3) (r - 4) o)))) : K275_374 d2 x3 x4 x5 d6 x7 x8 d9 d10 d11 d12 d13 y0 w r o := by
  show Lg 275 374 [(some (.inr (.inr (some 0)))), (some (.inr (.inr (some 682)))), d2, (some (.inl x3)), (some (.inl x4)), (some (.inl x5)), d6, (some (.inl x7)), (some (.inl x8)), d9, d10, d11, d12, d13] [(.inl y0)] w r o
  refine zq_istore 376 [(some (.inr (.inr (some 0)))), (some (.inr (.inr (some 682)))), d2, (some (.inl x3)), (some (.inl x4)), (some (.inl x5)), d6, (some (.inl x7)), (some (.inl x8)), d9, d10, (some (.inl y0)), d12, d13] (show zop 275 374 = some (.istore 11, 2) by decide +kernel) rfl rfl rfl ?_
  refine zq_iload 378 (show zop 275 376 = some (.iload 5, 2) by decide +kernel) rfl rfl ?_
  refine zq_iconst 379 (show zop 275 378 = some (.iconst 1, 1) by decide +kernel) rfl rfl ?_
  obtain ⟨g1, h⟩ := h
  refine zq_iadd 380 (show zop 275 379 = some (.iadd, 1) by decide +kernel) rfl g1 ?_
  refine zq_iload_n 381 (show zop 275 380 = some (.iload_n 3, 1) by decide +kernel) rfl rfl ?_
  refine zq_iconst 382 (show zop 275 381 = some (.iconst 4, 1) by decide +kernel) rfl rfl ?_
  refine zq_idiv 383 (show zop 275 382 = some (.idiv, 1) by decide +kernel) rfl (by decide) ?_
  refine zq_iconst 384 (show zop 275 383 = some (.iconst 3, 1) by decide +kernel) rfl rfl ?_
  refine zq_irem 385 (show zop 275 384 = some (.irem, 1) by decide +kernel) rfl (by decide) ?_
  obtain ⟨g2, h⟩ := h
  refine zq_iadd 386 (show zop 275 385 = some (.iadd, 1) by decide +kernel) rfl g2 ?_
  refine zq_iconst 387 (show zop 275 386 = some (.iconst 4, 1) by decide +kernel) rfl rfl ?_
  refine zq_irem 388 (show zop 275 387 = some (.irem, 1) by decide +kernel) rfl (by decide) ?_
  refine zq_istore 390 [(some (.inr (.inr (some 0)))), (some (.inr (.inr (some 682)))), d2, (some (.inl x3)), (some (.inl x4)), (some (.inl x5)), d6, (some (.inl x7)), (some (.inl x8)), d9, d10, (some (.inl y0)), (some (.inl (Int.tmod ((x5 + 1) + (Int.tmod (Int.tdiv x3 4) 3)) 4))), d13] (show zop 275 388 = some (.istore 12, 2) by decide +kernel) rfl rfl rfl ?_
  refine zq_iload 392 (show zop 275 390 = some (.iload 11, 2) by decide +kernel) rfl rfl ?_
  by_cases hc7 : y0 = 0
  · rw [if_pos hc7] at h
    refine zq_ifT 414 (show zop 275 392 = some (.ifCond .eq 22, 3) by decide +kernel) rfl (decide_eq_true hc7) ?_
    exact h
  · rw [if_neg hc7] at h
    refine zq_ifF 395 414 (show zop 275 392 = some (.ifCond .eq 22, 3) by decide +kernel) rfl rfl (decide_eq_false hc7) ?_
    refine zq_aload_n 396 (show zop 275 395 = some (.aload_n 0, 1) by decide +kernel) rfl rfl ?_
    refine zq_iload 398 (show zop 275 396 = some (.iload 7, 2) by decide +kernel) rfl rfl ?_
    refine zq_iload 400 (show zop 275 398 = some (.iload 4, 2) by decide +kernel) rfl rfl ?_
    refine zq_iload 402 (show zop 275 400 = some (.iload 12, 2) by decide +kernel) rfl rfl ?_
    obtain ⟨g6, h⟩ := h
    obtain ⟨v4, s3, hD5, h⟩ := h
    refine zq_vi (v := some (.inl v4)) (σ' := s3) (nj := 4) (j := 226) (c := 4) (t := []) (as := [(.inr (.inr (some 0))), (.inl x7), (.inl x4), (.inl (Int.tmod ((x5 + 1) + (Int.tmod (Int.tdiv x3 4) 3)) 4))]) 405 [(.inl v4)] (show zop 275 402 = some (.invokevirtual 167, 3) by decide +kernel) (by decide +kernel) rfl (by decide +kernel) rfl rfl rfl rfl rfl rfl (by decide +kernel) (by decide +kernel) (clS_0 rfl) hD5 rfl g6 ?_
    refine zq_iload 407 (show zop 275 405 = some (.iload 8, 2) by decide +kernel) rfl rfl ?_
    by_cases hc8 : v4 = x8
    · rw [if_pos hc8] at h
      refine zq_icmpF 410 414 (show zop 275 407 = some (.if_icmp .ne 7, 3) by decide +kernel) rfl rfl (decide_eq_false (fun h9 => h9 hc8)) ?_
      refine zq_iconst 411 (show zop 275 410 = some (.iconst 1, 1) by decide +kernel) rfl rfl ?_
      refine zq_goto 415 (show zop 275 411 = some (.goto 4, 3) by decide +kernel) rfl ?_
      exact h
    · rw [if_neg hc8] at h
      refine zq_icmpT 414 (show zop 275 407 = some (.if_icmp .ne 7, 3) by decide +kernel) rfl (decide_eq_true hc8) ?_
      exact h
theorem bK275_277 {d2 : Option AV} {x3 : Int} {x4 : Int} {x5 : Int} {x6 : Int} {x7 : Int} {x8 : Int} {x9 : Int} {d10 : Option AV} {x11 : Int} {x12 : Int} {x13 : Int} {y0 : Int} {y1 : Int} {w : WS} {r : Nat} {o : Ro} (h : (-2147483648 ≤ (y0 + y1) ∧ (y0 + y1) ≤ 2147483647) ∧ (if x11 = 0 then K275_337 d2 x3 x4 x5 x6 x7 x8 x9 (y0 + y1) (some (.inl x11)) x12 (some (.inl x13)) w r o else (if 1000 ≤ x13 then (if (Int.tmod x13 1000) < 500 then (if 3 ≤ (Int.tdiv x13 1000) then (-2147483648 ≤ ((Int.tmod x13 1000) + (Int.tdiv x13 1000)) ∧ ((Int.tmod x13 1000) + (Int.tdiv x13 1000)) ≤ 2147483647) ∧ (if ((Int.tmod x13 1000) + (Int.tdiv x13 1000)) ≤ x6 then K275_333 d2 x3 x4 x5 x6 x7 x8 x9 (y0 + y1) (some (.inl x11)) x12 (some (.inl x13)) w r o else K275_337 d2 x3 x4 x5 x6 x7 x8 x9 (y0 + y1) (some (.inl x11)) x12 (some (.inl x13)) w r o) else K275_337 d2 x3 x4 x5 x6 x7 x8 x9 (y0 + y1) (some (.inl x11)) x12 (some (.inl x13)) w r o) else K275_333 d2 x3 x4 x5 x6 x7 x8 x9 (y0 + y1) (some (.inl x11)) x12 (some (.inl x13)) w r o) else K275_337 d2 x3 x4 x5 x6 x7 x8 x9 (y0 + y1) (some (.inl x11)) x12 (some (.inl x13)) w r o))) : K275_277 d2 x3 x4 x5 x6 x7 x8 x9 d10 x11 x12 x13 y0 y1 w r o := by
  show Lg 275 277 [(some (.inr (.inr (some 0)))), (some (.inr (.inr (some 682)))), d2, (some (.inl x3)), (some (.inl x4)), (some (.inl x5)), (some (.inl x6)), (some (.inl x7)), (some (.inl x8)), (some (.inl x9)), d10, (some (.inl x11)), (some (.inl x12)), (some (.inl x13))] [(.inl y1), (.inl y0)] w r o
  obtain ⟨g1, h⟩ := h
  refine zq_iadd 278 (show zop 275 277 = some (.iadd, 1) by decide +kernel) rfl g1 ?_
  refine zq_istore 280 [(some (.inr (.inr (some 0)))), (some (.inr (.inr (some 682)))), d2, (some (.inl x3)), (some (.inl x4)), (some (.inl x5)), (some (.inl x6)), (some (.inl x7)), (some (.inl x8)), (some (.inl x9)), (some (.inl (y0 + y1))), (some (.inl x11)), (some (.inl x12)), (some (.inl x13))] (show zop 275 278 = some (.istore 10, 2) by decide +kernel) rfl rfl rfl ?_
  refine zq_iload 282 (show zop 275 280 = some (.iload 11, 2) by decide +kernel) rfl rfl ?_
  by_cases hc3 : x11 = 0
  · rw [if_pos hc3] at h
    refine zq_ifT 337 (show zop 275 282 = some (.ifCond .eq 55, 3) by decide +kernel) rfl (decide_eq_true hc3) ?_
    exact h
  · rw [if_neg hc3] at h
    refine zq_ifF 285 337 (show zop 275 282 = some (.ifCond .eq 55, 3) by decide +kernel) rfl rfl (decide_eq_false hc3) ?_
    refine zq_iload 287 (show zop 275 285 = some (.iload 13, 2) by decide +kernel) rfl rfl ?_
    refine zq_sipush 290 (show zop 275 287 = some (.sipush 1000, 3) by decide +kernel) rfl (by decide) ?_
    by_cases hc4 : 1000 ≤ x13
    · rw [if_pos hc4] at h
      refine zq_icmpF 293 337 (show zop 275 290 = some (.if_icmp .lt 47, 3) by decide +kernel) rfl rfl (decide_eq_false (Int.not_lt.mpr hc4)) ?_
      refine zq_iload 295 (show zop 275 293 = some (.iload 13, 2) by decide +kernel) rfl rfl ?_
      refine zq_sipush 298 (show zop 275 295 = some (.sipush 1000, 3) by decide +kernel) rfl (by decide) ?_
      refine zq_irem 299 (show zop 275 298 = some (.irem, 1) by decide +kernel) rfl (by decide) ?_
      refine zq_sipush 302 (show zop 275 299 = some (.sipush 500, 3) by decide +kernel) rfl (by decide) ?_
      by_cases hc5 : (Int.tmod x13 1000) < 500
      · rw [if_pos hc5] at h
        refine zq_icmpF 305 333 (show zop 275 302 = some (.if_icmp .ge 31, 3) by decide +kernel) rfl rfl (decide_eq_false (Int.not_le.mpr hc5)) ?_
        refine zq_iload 307 (show zop 275 305 = some (.iload 13, 2) by decide +kernel) rfl rfl ?_
        refine zq_sipush 310 (show zop 275 307 = some (.sipush 1000, 3) by decide +kernel) rfl (by decide) ?_
        refine zq_idiv 311 (show zop 275 310 = some (.idiv, 1) by decide +kernel) rfl (by decide) ?_
        refine zq_iconst 312 (show zop 275 311 = some (.iconst 3, 1) by decide +kernel) rfl rfl ?_
        by_cases hc6 : 3 ≤ (Int.tdiv x13 1000)
        · rw [if_pos hc6] at h
          refine zq_icmpF 315 337 (show zop 275 312 = some (.if_icmp .lt 25, 3) by decide +kernel) rfl rfl (decide_eq_false (Int.not_lt.mpr hc6)) ?_
          refine zq_iload 317 (show zop 275 315 = some (.iload 13, 2) by decide +kernel) rfl rfl ?_
          refine zq_sipush 320 (show zop 275 317 = some (.sipush 1000, 3) by decide +kernel) rfl (by decide) ?_
          refine zq_irem 321 (show zop 275 320 = some (.irem, 1) by decide +kernel) rfl (by decide) ?_
          refine zq_iload 323 (show zop 275 321 = some (.iload 13, 2) by decide +kernel) rfl rfl ?_
          refine zq_sipush 326 (show zop 275 323 = some (.sipush 1000, 3) by decide +kernel) rfl (by decide) ?_
          refine zq_idiv 327 (show zop 275 326 = some (.idiv, 1) by decide +kernel) rfl (by decide) ?_
          obtain ⟨g2, h⟩ := h
          refine zq_iadd 328 (show zop 275 327 = some (.iadd, 1) by decide +kernel) rfl g2 ?_
          refine zq_iload 330 (show zop 275 328 = some (.iload 6, 2) by decide +kernel) rfl rfl ?_
          by_cases hc7 : ((Int.tmod x13 1000) + (Int.tdiv x13 1000)) ≤ x6
          · rw [if_pos hc7] at h
            refine zq_icmpF 333 337 (show zop 275 330 = some (.if_icmp .gt 7, 3) by decide +kernel) rfl rfl (decide_eq_false (Int.not_lt.mpr hc7)) ?_
            exact h
          · rw [if_neg hc7] at h
            refine zq_icmpT 337 (show zop 275 330 = some (.if_icmp .gt 7, 3) by decide +kernel) rfl (decide_eq_true (Int.not_le.mp hc7)) ?_
            exact h
        · rw [if_neg hc6] at h
          refine zq_icmpT 337 (show zop 275 312 = some (.if_icmp .lt 25, 3) by decide +kernel) rfl (decide_eq_true (Int.not_le.mp hc6)) ?_
          exact h
      · rw [if_neg hc5] at h
        refine zq_icmpT 333 (show zop 275 302 = some (.if_icmp .ge 31, 3) by decide +kernel) rfl (decide_eq_true (Int.not_lt.mp hc5)) ?_
        exact h
    · rw [if_neg hc4] at h
      refine zq_icmpT 337 (show zop 275 290 = some (.if_icmp .lt 47, 3) by decide +kernel) rfl (decide_eq_true (Int.not_le.mp hc4)) ?_
      exact h
theorem bK275_414 {d2 : Option AV} {x3 : Int} {d4 : Option AV} {x5 : Int} {d6 : Option AV} {x7 : Int} {x8 : Int} {d9 : Option AV} {d10 : Option AV} {d11 : Option AV} {x12 : Int} {d13 : Option AV} {w : WS} {r : Nat} {o : Ro} (h : K275_415 d2 x3 d4 x5 d6 x7 x8 d9 d10 d11 x12 d13 0 w r o) : K275_414 d2 x3 d4 x5 d6 x7 x8 d9 d10 d11 x12 d13 w r o := by
  show Lg 275 414 [(some (.inr (.inr (some 0)))), (some (.inr (.inr (some 682)))), d2, (some (.inl x3)), d4, (some (.inl x5)), d6, (some (.inl x7)), (some (.inl x8)), d9, d10, d11, (some (.inl x12)), d13] [] w r o
  refine zq_iconst 415 (show zop 275 414 = some (.iconst 0, 1) by decide +kernel) rfl rfl ?_
  exact h
theorem bK275_415 {d2 : Option AV} {x3 : Int} {d4 : Option AV} {x5 : Int} {d6 : Option AV} {x7 : Int} {x8 : Int} {d9 : Option AV} {d10 : Option AV} {d11 : Option AV} {x12 : Int} {d13 : Option AV} {y0 : Int} {w : WS} {r : Nat} {o : Ro} (h : K275_420 d2 x3 d4 x5 d6 x7 x8 d9 d10 y0 x12 0 w r o) : K275_415 d2 x3 d4 x5 d6 x7 x8 d9 d10 d11 x12 d13 y0 w r o := by
  show Lg 275 415 [(some (.inr (.inr (some 0)))), (some (.inr (.inr (some 682)))), d2, (some (.inl x3)), d4, (some (.inl x5)), d6, (some (.inl x7)), (some (.inl x8)), d9, d10, d11, (some (.inl x12)), d13] [(.inl y0)] w r o
  refine zq_istore 417 [(some (.inr (.inr (some 0)))), (some (.inr (.inr (some 682)))), d2, (some (.inl x3)), d4, (some (.inl x5)), d6, (some (.inl x7)), (some (.inl x8)), d9, d10, (some (.inl y0)), (some (.inl x12)), d13] (show zop 275 415 = some (.istore 11, 2) by decide +kernel) rfl rfl rfl ?_
  refine zq_iconst 418 (show zop 275 417 = some (.iconst 0, 1) by decide +kernel) rfl rfl ?_
  refine zq_istore 420 [(some (.inr (.inr (some 0)))), (some (.inr (.inr (some 682)))), d2, (some (.inl x3)), d4, (some (.inl x5)), d6, (some (.inl x7)), (some (.inl x8)), d9, d10, (some (.inl y0)), (some (.inl x12)), (some (.inl 0))] (show zop 275 418 = some (.istore 13, 2) by decide +kernel) rfl rfl rfl ?_
  exact h
theorem bK275_337 {d2 : Option AV} {x3 : Int} {x4 : Int} {x5 : Int} {x6 : Int} {x7 : Int} {x8 : Int} {x9 : Int} {x10 : Int} {d11 : Option AV} {x12 : Int} {d13 : Option AV} {w : WS} {r : Nat} {o : Ro} (h : K275_338 d2 x3 x4 x5 x6 x7 x8 x9 x10 d11 x12 d13 0 w r o) : K275_337 d2 x3 x4 x5 x6 x7 x8 x9 x10 d11 x12 d13 w r o := by
  show Lg 275 337 [(some (.inr (.inr (some 0)))), (some (.inr (.inr (some 682)))), d2, (some (.inl x3)), (some (.inl x4)), (some (.inl x5)), (some (.inl x6)), (some (.inl x7)), (some (.inl x8)), (some (.inl x9)), (some (.inl x10)), d11, (some (.inl x12)), d13] [] w r o
  refine zq_iconst 338 (show zop 275 337 = some (.iconst 0, 1) by decide +kernel) rfl rfl ?_
  exact h
theorem bK275_333 {d2 : Option AV} {x3 : Int} {x4 : Int} {x5 : Int} {x6 : Int} {x7 : Int} {x8 : Int} {x9 : Int} {x10 : Int} {d11 : Option AV} {x12 : Int} {d13 : Option AV} {w : WS} {r : Nat} {o : Ro} (h : K275_338 d2 x3 x4 x5 x6 x7 x8 x9 x10 d11 x12 d13 1 w r o) : K275_333 d2 x3 x4 x5 x6 x7 x8 x9 x10 d11 x12 d13 w r o := by
  show Lg 275 333 [(some (.inr (.inr (some 0)))), (some (.inr (.inr (some 682)))), d2, (some (.inl x3)), (some (.inl x4)), (some (.inl x5)), (some (.inl x6)), (some (.inl x7)), (some (.inl x8)), (some (.inl x9)), (some (.inl x10)), d11, (some (.inl x12)), d13] [] w r o
  refine zq_iconst 334 (show zop 275 333 = some (.iconst 1, 1) by decide +kernel) rfl rfl ?_
  refine zq_goto 338 (show zop 275 334 = some (.goto 4, 3) by decide +kernel) rfl ?_
  exact h
theorem bK275_420 {d2 : Option AV} {x3 : Int} {d4 : Option AV} {x5 : Int} {d6 : Option AV} {x7 : Int} {x8 : Int} {d9 : Option AV} {d10 : Option AV} {x11 : Int} {x12 : Int} {x13 : Int} {w : WS} {r : Nat} {o : Ro} (h : (if x13 ≤ x8 then (if x11 = 0 then K275_464 d2 x3 d4 (some (.inl x5)) d6 x7 (some (.inl x8)) d9 d10 x11 (some (.inl x12)) (some (.inl x13)) w r o else (2 ≤ r) ∧ (∃ (v2 : Int) (s1 : Sg), Dc 221 [(.inr (.inr (some 0))), (.inl x12), (.inl x13)] w.2.2 (.inl (some (.inl v2))) s1 ∧ (2 ≤ (r - 2)) ∧ (∃ (v6 : Int) (s5 : Sg), Dc 221 [(.inr (.inr (some 0))), (.inl x5), (.inl x13)] (wS w s1).2.2 (.inl (some (.inl v6))) s5 ∧ K275_456 d2 x3 d4 x5 d6 x7 x8 d9 d10 (some (.inl x11)) x12 x13 (if v2 = v6 then 1 else 0) (wS (wS w s1) s5) ((r - 2) - 2) o))) else K275_464 d2 x3 d4 (some (.inl x5)) d6 x7 (some (.inl x8)) d9 d10 x11 (some (.inl x12)) (some (.inl x13)) w r o)) : K275_420 d2 x3 d4 x5 d6 x7 x8 d9 d10 x11 x12 x13 w r o := by
  show Lg 275 420 [(some (.inr (.inr (some 0)))), (some (.inr (.inr (some 682)))), d2, (some (.inl x3)), d4, (some (.inl x5)), d6, (some (.inl x7)), (some (.inl x8)), d9, d10, (some (.inl x11)), (some (.inl x12)), (some (.inl x13))] [] w r o
  refine zq_iload 422 (show zop 275 420 = some (.iload 13, 2) by decide +kernel) rfl rfl ?_
  refine zq_iload 424 (show zop 275 422 = some (.iload 8, 2) by decide +kernel) rfl rfl ?_
  by_cases hc9 : x13 ≤ x8
  · rw [if_pos hc9] at h
    refine zq_icmpF 427 464 (show zop 275 424 = some (.if_icmp .gt 40, 3) by decide +kernel) rfl rfl (decide_eq_false (Int.not_lt.mpr hc9)) ?_
    refine zq_iload 429 (show zop 275 427 = some (.iload 11, 2) by decide +kernel) rfl rfl ?_
    by_cases hc10 : x11 = 0
    · rw [if_pos hc10] at h
      refine zq_ifT 464 (show zop 275 429 = some (.ifCond .eq 35, 3) by decide +kernel) rfl (decide_eq_true hc10) ?_
      exact h
    · rw [if_neg hc10] at h
      refine zq_ifF 432 464 (show zop 275 429 = some (.ifCond .eq 35, 3) by decide +kernel) rfl rfl (decide_eq_false hc10) ?_
      refine zq_aload_n 433 (show zop 275 432 = some (.aload_n 0, 1) by decide +kernel) rfl rfl ?_
      refine zq_iload 435 (show zop 275 433 = some (.iload 12, 2) by decide +kernel) rfl rfl ?_
      refine zq_iload 437 (show zop 275 435 = some (.iload 13, 2) by decide +kernel) rfl rfl ?_
      obtain ⟨g4, h⟩ := h
      obtain ⟨v2, s1, hD3, h⟩ := h
      refine zq_vi (v := some (.inl v2)) (σ' := s1) (nj := 3) (j := 221) (c := 2) (t := []) (as := [(.inr (.inr (some 0))), (.inl x12), (.inl x13)]) 440 [(.inl v2)] (show zop 275 437 = some (.invokevirtual 273, 3) by decide +kernel) (by decide +kernel) rfl (by decide +kernel) rfl rfl rfl rfl rfl rfl (by decide +kernel) (by decide +kernel) (clS_0 rfl) hD3 rfl g4 ?_
      refine zq_aload_n 441 (show zop 275 440 = some (.aload_n 0, 1) by decide +kernel) rfl rfl ?_
      refine zq_iload 443 (show zop 275 441 = some (.iload 5, 2) by decide +kernel) rfl rfl ?_
      refine zq_iload 445 (show zop 275 443 = some (.iload 13, 2) by decide +kernel) rfl rfl ?_
      obtain ⟨g8, h⟩ := h
      obtain ⟨v6, s5, hD7, h⟩ := h
      refine zq_vi (v := some (.inl v6)) (σ' := s5) (nj := 3) (j := 221) (c := 2) (t := [(.inl v2)]) (as := [(.inr (.inr (some 0))), (.inl x5), (.inl x13)]) 448 [(.inl v6), (.inl v2)] (show zop 275 445 = some (.invokevirtual 273, 3) by decide +kernel) (by decide +kernel) rfl (by decide +kernel) rfl rfl rfl rfl rfl rfl (by decide +kernel) (by decide +kernel) (clS_0 rfl) hD7 rfl g8 ?_
      by_cases hc11 : v2 = v6
      · refine zq_icmpF 451 455 (show zop 275 448 = some (.if_icmp .ne 7, 3) by decide +kernel) rfl rfl (decide_eq_false (fun h9 => h9 hc11)) ?_
        refine zq_iconst 452 (show zop 275 451 = some (.iconst 1, 1) by decide +kernel) rfl rfl ?_
        refine zq_goto 456 (show zop 275 452 = some (.goto 4, 3) by decide +kernel) rfl ?_
        have h9 := h; simp only [if_pos hc11] at h9; exact h9
      · refine zq_icmpT 455 (show zop 275 448 = some (.if_icmp .ne 7, 3) by decide +kernel) rfl (decide_eq_true hc11) ?_
        refine zq_iconst 456 (show zop 275 455 = some (.iconst 0, 1) by decide +kernel) rfl rfl ?_
        have h9 := h; simp only [if_neg hc11] at h9; exact h9
  · rw [if_neg hc9] at h
    refine zq_icmpT 464 (show zop 275 424 = some (.if_icmp .gt 40, 3) by decide +kernel) rfl (decide_eq_true (Int.not_le.mp hc9)) ?_
    exact h
theorem bK275_338 {d2 : Option AV} {x3 : Int} {x4 : Int} {x5 : Int} {x6 : Int} {x7 : Int} {x8 : Int} {x9 : Int} {x10 : Int} {d11 : Option AV} {x12 : Int} {d13 : Option AV} {y0 : Int} {w : WS} {r : Nat} {o : Ro} (h : (-2147483648 ≤ (x12 + 1) ∧ (x12 + 1) ≤ 2147483647) ∧ K275_218 d2 x3 x4 x5 x6 x7 x8 x9 x10 y0 (x12 + 1) d13 w r o) : K275_338 d2 x3 x4 x5 x6 x7 x8 x9 x10 d11 x12 d13 y0 w r o := by
  show Lg 275 338 [(some (.inr (.inr (some 0)))), (some (.inr (.inr (some 682)))), d2, (some (.inl x3)), (some (.inl x4)), (some (.inl x5)), (some (.inl x6)), (some (.inl x7)), (some (.inl x8)), (some (.inl x9)), (some (.inl x10)), d11, (some (.inl x12)), d13] [(.inl y0)] w r o
  refine zq_istore 340 [(some (.inr (.inr (some 0)))), (some (.inr (.inr (some 682)))), d2, (some (.inl x3)), (some (.inl x4)), (some (.inl x5)), (some (.inl x6)), (some (.inl x7)), (some (.inl x8)), (some (.inl x9)), (some (.inl x10)), (some (.inl y0)), (some (.inl x12)), d13] (show zop 275 338 = some (.istore 11, 2) by decide +kernel) rfl rfl rfl ?_
  obtain ⟨g1, h⟩ := h
  refine zq_iinc 343 [(some (.inr (.inr (some 0)))), (some (.inr (.inr (some 682)))), d2, (some (.inl x3)), (some (.inl x4)), (some (.inl x5)), (some (.inl x6)), (some (.inl x7)), (some (.inl x8)), (some (.inl x9)), (some (.inl x10)), (some (.inl y0)), (some (.inl (x12 + 1))), d13] (show zop 275 340 = some (.iinc 12 1, 3) by decide +kernel) rfl rfl g1 rfl ?_
  refine zq_goto 218 (show zop 275 343 = some (.goto (-125), 3) by decide +kernel) rfl ?_
  exact h
theorem bK275_464 {d2 : Option AV} {x3 : Int} {d4 : Option AV} {d5 : Option AV} {d6 : Option AV} {x7 : Int} {d8 : Option AV} {d9 : Option AV} {d10 : Option AV} {x11 : Int} {d12 : Option AV} {d13 : Option AV} {w : WS} {r : Nat} {o : Ro} (h : (if x11 = 0 then K275_499 (some (.inr (.inr (some 0)))) (some (.inr (.inr (some 682)))) d2 (some (.inl x3)) d4 d5 d6 (some (.inl x7)) d8 d9 d10 (some (.inl x11)) d12 d13 w r o else (w.1[0]? = some (0, 12, [])) ∧ (0 ≤ (2 : Int) ∧ (2 : Int) < 12) ∧ (if (w.2.1 682 ((2 : Int)).toNat) ≤ 9 then (w.1[0]? = some (0, 12, [])) ∧ (0 ≤ (2 : Int) ∧ (2 : Int) < 12) ∧ (0 < (w.2.1 682 ((2 : Int)).toNat)) ∧ (600 ≤ r) ∧ (∃ (v9 : Int) (w8 : WS), Lx 276 [(.inr (.inr (some 0))), (.inr (.inr (some 682))), (.inl (Int.tmod (Int.tdiv x3 12) (w.2.1 682 ((2 : Int)).toNat))), (.inl x7)] w (.inl (some (.inl v9)), w8) ∧ (if v9 = 0 then K275_499 (some (.inr (.inr (some 0)))) (some (.inr (.inr (some 682)))) d2 (some (.inl x3)) d4 d5 d6 (some (.inl x7)) d8 d9 d10 (some (.inl x11)) d12 d13 w8 (r - 600) o else K275_495 (some (.inr (.inr (some 0)))) (some (.inr (.inr (some 682)))) d2 (some (.inl x3)) d4 d5 d6 (some (.inl x7)) d8 d9 d10 (some (.inl x11)) d12 d13 w8 (r - 600) o)) else K275_495 (some (.inr (.inr (some 0)))) (some (.inr (.inr (some 682)))) d2 (some (.inl x3)) d4 d5 d6 (some (.inl x7)) d8 d9 d10 (some (.inl x11)) d12 d13 w r o))) : K275_464 d2 x3 d4 d5 d6 x7 d8 d9 d10 x11 d12 d13 w r o := by
  show Lg 275 464 [(some (.inr (.inr (some 0)))), (some (.inr (.inr (some 682)))), d2, (some (.inl x3)), d4, d5, d6, (some (.inl x7)), d8, d9, d10, (some (.inl x11)), d12, d13] [] w r o
  refine zq_iload 466 (show zop 275 464 = some (.iload 11, 2) by decide +kernel) rfl rfl ?_
  by_cases hc12 : x11 = 0
  · rw [if_pos hc12] at h
    refine zq_ifT 499 (show zop 275 466 = some (.ifCond .eq 33, 3) by decide +kernel) rfl (decide_eq_true hc12) ?_
    exact h
  · rw [if_neg hc12] at h
    refine zq_ifF 469 499 (show zop 275 466 = some (.ifCond .eq 33, 3) by decide +kernel) rfl rfl (decide_eq_false hc12) ?_
    refine zq_aload_n 470 (show zop 275 469 = some (.aload_n 1, 1) by decide +kernel) rfl rfl ?_
    refine zq_iconst 471 (show zop 275 470 = some (.iconst 2, 1) by decide +kernel) rfl rfl ?_
    obtain ⟨g3, h⟩ := h
    obtain ⟨g1, h⟩ := h
    refine zq_iaload 472 12 (show zop 275 471 = some (.iaload, 1) by decide +kernel) rfl (by decide) g3 g1 ?_
    refine zq_bipush 474 (show zop 275 472 = some (.bipush 9, 2) by decide +kernel) rfl (by decide) ?_
    by_cases hc13 : (w.2.1 682 ((2 : Int)).toNat) ≤ 9
    · rw [if_pos hc13] at h
      refine zq_icmpF 477 495 (show zop 275 474 = some (.if_icmp .gt 21, 3) by decide +kernel) rfl rfl (decide_eq_false (Int.not_lt.mpr hc13)) ?_
      refine zq_aload_n 478 (show zop 275 477 = some (.aload_n 0, 1) by decide +kernel) rfl rfl ?_
      refine zq_aload_n 479 (show zop 275 478 = some (.aload_n 1, 1) by decide +kernel) rfl rfl ?_
      refine zq_iload_n 480 (show zop 275 479 = some (.iload_n 3, 1) by decide +kernel) rfl rfl ?_
      refine zq_bipush 482 (show zop 275 480 = some (.bipush 12, 2) by decide +kernel) rfl (by decide) ?_
      refine zq_idiv 483 (show zop 275 482 = some (.idiv, 1) by decide +kernel) rfl (by decide) ?_
      refine zq_aload_n 484 (show zop 275 483 = some (.aload_n 1, 1) by decide +kernel) rfl rfl ?_
      refine zq_iconst 485 (show zop 275 484 = some (.iconst 2, 1) by decide +kernel) rfl rfl ?_
      obtain ⟨g6, h⟩ := h
      obtain ⟨g4, h⟩ := h
      refine zq_iaload 486 12 (show zop 275 485 = some (.iaload, 1) by decide +kernel) rfl (by decide) g6 g4 ?_
      obtain ⟨g7, h⟩ := h
      refine zq_irem 487 (show zop 275 486 = some (.irem, 1) by decide +kernel) rfl g7 ?_
      refine zq_iload 489 (show zop 275 487 = some (.iload 7, 2) by decide +kernel) rfl rfl ?_
      obtain ⟨g11, h⟩ := h
      obtain ⟨v9, w8, hD10, h⟩ := h
      refine zq_lx (v := some (.inl v9)) (w' := w8) (nj := 4) (j := 276) (c := 600) (t := []) (as := [(.inr (.inr (some 0))), (.inr (.inr (some 682))), (.inl (Int.tmod (Int.tdiv x3 12) (w.2.1 682 ((2 : Int)).toNat))), (.inl x7)]) 492 [(.inl v9)] (show zop 275 489 = some (.invokestatic 296, 3) by decide +kernel) (by decide +kernel) rfl (by decide +kernel) (by decide +kernel) rfl rfl rfl rfl rfl hD10 rfl g11 ?_
      by_cases hc14 : v9 = 0
      · rw [if_pos hc14] at h
        refine zq_ifT 499 (show zop 275 492 = some (.ifCond .eq 7, 3) by decide +kernel) rfl (decide_eq_true hc14) ?_
        exact h
      · rw [if_neg hc14] at h
        refine zq_ifF 495 499 (show zop 275 492 = some (.ifCond .eq 7, 3) by decide +kernel) rfl rfl (decide_eq_false hc14) ?_
        exact h
    · rw [if_neg hc13] at h
      refine zq_icmpT 495 (show zop 275 474 = some (.if_icmp .gt 21, 3) by decide +kernel) rfl (decide_eq_true (Int.not_le.mp hc13)) ?_
      exact h
theorem bK275_456 {d2 : Option AV} {x3 : Int} {d4 : Option AV} {x5 : Int} {d6 : Option AV} {x7 : Int} {x8 : Int} {d9 : Option AV} {d10 : Option AV} {d11 : Option AV} {x12 : Int} {x13 : Int} {y0 : Int} {w : WS} {r : Nat} {o : Ro} (h : (-2147483648 ≤ (x13 + 1) ∧ (x13 + 1) ≤ 2147483647) ∧ K275_420 d2 x3 d4 x5 d6 x7 x8 d9 d10 y0 x12 (x13 + 1) w r o) : K275_456 d2 x3 d4 x5 d6 x7 x8 d9 d10 d11 x12 x13 y0 w r o := by
  show Lg 275 456 [(some (.inr (.inr (some 0)))), (some (.inr (.inr (some 682)))), d2, (some (.inl x3)), d4, (some (.inl x5)), d6, (some (.inl x7)), (some (.inl x8)), d9, d10, d11, (some (.inl x12)), (some (.inl x13))] [(.inl y0)] w r o
  refine zq_istore 458 [(some (.inr (.inr (some 0)))), (some (.inr (.inr (some 682)))), d2, (some (.inl x3)), d4, (some (.inl x5)), d6, (some (.inl x7)), (some (.inl x8)), d9, d10, (some (.inl y0)), (some (.inl x12)), (some (.inl x13))] (show zop 275 456 = some (.istore 11, 2) by decide +kernel) rfl rfl rfl ?_
  obtain ⟨g1, h⟩ := h
  refine zq_iinc 461 [(some (.inr (.inr (some 0)))), (some (.inr (.inr (some 682)))), d2, (some (.inl x3)), d4, (some (.inl x5)), d6, (some (.inl x7)), (some (.inl x8)), d9, d10, (some (.inl y0)), (some (.inl x12)), (some (.inl (x13 + 1)))] (show zop 275 458 = some (.iinc 13 1, 3) by decide +kernel) rfl rfl g1 rfl ?_
  refine zq_goto 420 (show zop 275 461 = some (.goto (-41), 3) by decide +kernel) rfl ?_
  exact h
theorem bK275_499 {d0 : Option AV} {d1 : Option AV} {d2 : Option AV} {d3 : Option AV} {d4 : Option AV} {d5 : Option AV} {d6 : Option AV} {d7 : Option AV} {d8 : Option AV} {d9 : Option AV} {d10 : Option AV} {d11 : Option AV} {d12 : Option AV} {d13 : Option AV} {w : WS} {r : Nat} {o : Ro} (h : K275_500 d0 d1 d2 d3 d4 d5 d6 d7 d8 d9 d10 d11 d12 d13 0 w r o) : K275_499 d0 d1 d2 d3 d4 d5 d6 d7 d8 d9 d10 d11 d12 d13 w r o := by
  show Lg 275 499 [d0, d1, d2, d3, d4, d5, d6, d7, d8, d9, d10, d11, d12, d13] [] w r o
  refine zq_iconst 500 (show zop 275 499 = some (.iconst 0, 1) by decide +kernel) rfl rfl ?_
  exact h
theorem bK275_495 {d0 : Option AV} {d1 : Option AV} {d2 : Option AV} {d3 : Option AV} {d4 : Option AV} {d5 : Option AV} {d6 : Option AV} {d7 : Option AV} {d8 : Option AV} {d9 : Option AV} {d10 : Option AV} {d11 : Option AV} {d12 : Option AV} {d13 : Option AV} {w : WS} {r : Nat} {o : Ro} (h : K275_500 d0 d1 d2 d3 d4 d5 d6 d7 d8 d9 d10 d11 d12 d13 1 w r o) : K275_495 d0 d1 d2 d3 d4 d5 d6 d7 d8 d9 d10 d11 d12 d13 w r o := by
  show Lg 275 495 [d0, d1, d2, d3, d4, d5, d6, d7, d8, d9, d10, d11, d12, d13] [] w r o
  refine zq_iconst 496 (show zop 275 495 = some (.iconst 1, 1) by decide +kernel) rfl rfl ?_
  refine zq_goto 500 (show zop 275 496 = some (.goto 4, 3) by decide +kernel) rfl ?_
  exact h
theorem bK275_500 {d0 : Option AV} {d1 : Option AV} {d2 : Option AV} {d3 : Option AV} {d4 : Option AV} {d5 : Option AV} {d6 : Option AV} {d7 : Option AV} {d8 : Option AV} {d9 : Option AV} {d10 : Option AV} {d11 : Option AV} {d12 : Option AV} {d13 : Option AV} {y0 : Int} {w : WS} {r : Nat} {o : Ro} (h : (y0 = 0 ∨ y0 = 1) ∧ o = (.inl (some (.inl y0)), w)) : K275_500 d0 d1 d2 d3 d4 d5 d6 d7 d8 d9 d10 d11 d12 d13 y0 w r o := by
  show Lg 275 500 [d0, d1, d2, d3, d4, d5, d6, d7, d8, d9, d10, d11, d12, d13] [(.inl y0)] w r o
  obtain ⟨g1, h⟩ := h
  exact (zq_zret (show zop 275 500 = some (.ireturn, 1) by decide +kernel) (by decide +kernel) g1 h)
/-- PatchBenchLaw.bytes (LPatchBench;[III)Z -/
theorem lb275 {x2 : Int} {x3 : Int} {w : WS} {o : Ro} (h : (90 ≤ 1400) ∧ (∃ (v2 : Int) (w1 : WS), Lx 274 [(.inr (.inr (some 0))), (.inl (Int.tmod x2 4))] w (.inl (some (.inl v2)), w1) ∧ (if (Int.tmod (Int.tdiv x2 4) 5) < 3 then (if 30 ≤ v2 then (1 ≤ (1400 - 90)) ∧ (∃ (v6 : Int) (s5 : Sg), Dc 220 [(.inr (.inr (some 0))), (.inl (Int.tmod x2 4))] w1.2.2 (.inl (some (.inl v6))) s5 ∧ (if v6 = v2 then K275_45 (some (.inr (.inr (some 682)))) (some (.inl x2)) x3 (Int.tmod x2 4) (some (.inl (Int.tmod x3 4))) (some (.inl v2)) none none none none none none none (wS w1 s5) ((1400 - 90) - 1) o else K275_50 (some (.inr (.inr (some 682)))) (some (.inl x2)) x3 (Int.tmod x2 4) (some (.inl (Int.tmod x3 4))) (some (.inl v2)) none none none none none none none 0 (wS w1 s5) ((1400 - 90) - 1) o)) else K275_45 (some (.inr (.inr (some 682)))) (some (.inl x2)) x3 (Int.tmod x2 4) (some (.inl (Int.tmod x3 4))) (some (.inl v2)) none none none none none none none w1 (1400 - 90) o) else (w1.1[0]? = some (0, 12, [])) ∧ (0 ≤ (2 : Int) ∧ (2 : Int) < 12) ∧ (if 8 < (w1.2.1 682 ((2 : Int)).toNat) then (w1.1[0]? = some (0, 12, [])) ∧ (0 ≤ (2 : Int) ∧ (2 : Int) < 12) ∧ (0 < (w1.2.1 682 ((2 : Int)).toNat)) ∧ (4 ≤ (1400 - 90)) ∧ (∃ (v17 : Int) (w16 : WS), Lx 262 [(.inr (.inr (some 0))), (.inl (Int.tmod x2 (w1.2.1 682 ((2 : Int)).toNat))), (.inl (Int.tmod x2 4)), (.inl (Int.tmod x3 4))] w1 (.inl (some (.inl v17)), w16) ∧ K275_168 (some (.inr (.inr (some 0)))) (some (.inr (.inr (some 682)))) (some (.inl x2)) (some (.inl x3)) (some (.inl (Int.tmod x2 4))) (some (.inl (Int.tmod x3 4))) (some (.inl v2)) none none none none none none none (if (-2) ≤ v17 then 1 else 0) w16 ((1400 - 90) - 4) o) else (w1.1[0]? = some (0, 12, [])) ∧ (0 ≤ (2 : Int) ∧ (2 : Int) < 12) ∧ (90 ≤ (1400 - 90)) ∧ (∃ (v24 : Int) (w23 : WS), Lx 274 [(.inr (.inr (some 0))), (.inl (Int.tmod x3 4))] w1 (.inl (some (.inl v24)), w23) ∧ (w23.1[0]? = some (0, 12, [])) ∧ (0 ≤ (2 : Int) ∧ (2 : Int) < 12) ∧ (-2147483648 ≤ ((w23.2.1 682 ((2 : Int)).toNat) + 1) ∧ ((w23.2.1 682 ((2 : Int)).toNat) + 1) ≤ 2147483647) ∧ (w23.1[0]? = some (0, 12, [])) ∧ (0 ≤ (2 : Int) ∧ (2 : Int) < 12) ∧ (3 ≤ ((1400 - 90) - 90)) ∧ (∃ (v35 : Int) (s34 : Sg), Dc 222 [(.inr (.inr (some 0))), (.inl (Int.tmod x2 4)), (.inl (Int.tmod x3 4))] (wU w23 682 ((2 : Int)).toNat ((w23.2.1 682 ((2 : Int)).toNat) + 1)).2.2 (.inl (some (.inl v35))) s34 ∧ K275_213 (some (.inl x2)) x3 (Int.tmod x2 4) (Int.tmod x3 4) v2 (w1.2.1 682 ((2 : Int)).toNat) v24 0 0 none none none (if v35 = (w1.2.1 682 ((2 : Int)).toNat) then 1 else 0) (wS (wU w23 682 ((2 : Int)).toNat ((w23.2.1 682 ((2 : Int)).toNat) + 1)) s34) (((1400 - 90) - 90) - 3) o)))))) : Lx 275 [(.inr (.inr (some 0))), (.inr (.inr (some 682))), (.inl x2), (.inl x3)] w o := by
  refine Lx_of (l := 14) (r := 1400) (by decide +kernel) (by decide +kernel) ?_
  show Lg 275 0 [(some (.inr (.inr (some 0)))), (some (.inr (.inr (some 682)))), (some (.inl x2)), (some (.inl x3)), none, none, none, none, none, none, none, none, none, none] [] w 1400 o
  refine zq_iload_n 1 (show zop 275 0 = some (.iload_n 2, 1) by decide +kernel) rfl rfl ?_
  refine zq_iconst 2 (show zop 275 1 = some (.iconst 4, 1) by decide +kernel) rfl rfl ?_
  refine zq_irem 3 (show zop 275 2 = some (.irem, 1) by decide +kernel) rfl (by decide) ?_
  refine zq_istore 5 [(some (.inr (.inr (some 0)))), (some (.inr (.inr (some 682)))), (some (.inl x2)), (some (.inl x3)), (some (.inl (Int.tmod x2 4))), none, none, none, none, none, none, none, none, none] (show zop 275 3 = some (.istore 4, 2) by decide +kernel) rfl rfl rfl ?_
  refine zq_iload_n 6 (show zop 275 5 = some (.iload_n 3, 1) by decide +kernel) rfl rfl ?_
  refine zq_iconst 7 (show zop 275 6 = some (.iconst 4, 1) by decide +kernel) rfl rfl ?_
  refine zq_irem 8 (show zop 275 7 = some (.irem, 1) by decide +kernel) rfl (by decide) ?_
  refine zq_istore 10 [(some (.inr (.inr (some 0)))), (some (.inr (.inr (some 682)))), (some (.inl x2)), (some (.inl x3)), (some (.inl (Int.tmod x2 4))), (some (.inl (Int.tmod x3 4))), none, none, none, none, none, none, none, none] (show zop 275 8 = some (.istore 5, 2) by decide +kernel) rfl rfl rfl ?_
  refine zq_aload_n 11 (show zop 275 10 = some (.aload_n 0, 1) by decide +kernel) rfl rfl ?_
  refine zq_iload 13 (show zop 275 11 = some (.iload 4, 2) by decide +kernel) rfl rfl ?_
  obtain ⟨g4, h⟩ := h
  obtain ⟨v2, w1, hD3, h⟩ := h
  refine zq_lx (v := some (.inl v2)) (w' := w1) (nj := 2) (j := 274) (c := 90) (t := []) (as := [(.inr (.inr (some 0))), (.inl (Int.tmod x2 4))]) 16 [(.inl v2)] (show zop 275 13 = some (.invokestatic 276, 3) by decide +kernel) (by decide +kernel) rfl (by decide +kernel) (by decide +kernel) rfl rfl rfl rfl rfl hD3 rfl g4 ?_
  refine zq_istore 18 [(some (.inr (.inr (some 0)))), (some (.inr (.inr (some 682)))), (some (.inl x2)), (some (.inl x3)), (some (.inl (Int.tmod x2 4))), (some (.inl (Int.tmod x3 4))), (some (.inl v2)), none, none, none, none, none, none, none] (show zop 275 16 = some (.istore 6, 2) by decide +kernel) rfl rfl rfl ?_
  refine zq_iload_n 19 (show zop 275 18 = some (.iload_n 2, 1) by decide +kernel) rfl rfl ?_
  refine zq_iconst 20 (show zop 275 19 = some (.iconst 4, 1) by decide +kernel) rfl rfl ?_
  refine zq_idiv 21 (show zop 275 20 = some (.idiv, 1) by decide +kernel) rfl (by decide) ?_
  refine zq_iconst 22 (show zop 275 21 = some (.iconst 5, 1) by decide +kernel) rfl rfl ?_
  refine zq_irem 23 (show zop 275 22 = some (.irem, 1) by decide +kernel) rfl (by decide) ?_
  refine zq_iconst 24 (show zop 275 23 = some (.iconst 3, 1) by decide +kernel) rfl rfl ?_
  by_cases hc38 : (Int.tmod (Int.tdiv x2 4) 5) < 3
  · rw [if_pos hc38] at h
    refine zq_icmpF 27 137 (show zop 275 24 = some (.if_icmp .ge 113, 3) by decide +kernel) rfl rfl (decide_eq_false (Int.not_le.mpr hc38)) ?_
    refine zq_iload 29 (show zop 275 27 = some (.iload 6, 2) by decide +kernel) rfl rfl ?_
    refine zq_bipush 31 (show zop 275 29 = some (.bipush 30, 2) by decide +kernel) rfl (by decide) ?_
    by_cases hc39 : 30 ≤ v2
    · rw [if_pos hc39] at h
      refine zq_icmpF 34 45 (show zop 275 31 = some (.if_icmp .lt 14, 3) by decide +kernel) rfl rfl (decide_eq_false (Int.not_lt.mpr hc39)) ?_
      refine zq_aload_n 35 (show zop 275 34 = some (.aload_n 0, 1) by decide +kernel) rfl rfl ?_
      refine zq_iload 37 (show zop 275 35 = some (.iload 4, 2) by decide +kernel) rfl rfl ?_
      obtain ⟨g8, h⟩ := h
      obtain ⟨v6, s5, hD7, h⟩ := h
      refine zq_vi (v := some (.inl v6)) (σ' := s5) (nj := 2) (j := 220) (c := 1) (t := []) (as := [(.inr (.inr (some 0))), (.inl (Int.tmod x2 4))]) 40 [(.inl v6)] (show zop 275 37 = some (.invokevirtual 279, 3) by decide +kernel) (by decide +kernel) rfl (by decide +kernel) rfl rfl rfl rfl rfl rfl (by decide +kernel) (by decide +kernel) (clS_0 rfl) hD7 rfl g8 ?_
      refine zq_iload 42 (show zop 275 40 = some (.iload 6, 2) by decide +kernel) rfl rfl ?_
      by_cases hc40 : v6 = v2
      · rw [if_pos hc40] at h
        refine zq_icmpF 45 49 (show zop 275 42 = some (.if_icmp .ne 7, 3) by decide +kernel) rfl rfl (decide_eq_false (fun h9 => h9 hc40)) ?_
        exact h
      · rw [if_neg hc40] at h
        refine zq_icmpT 49 (show zop 275 42 = some (.if_icmp .ne 7, 3) by decide +kernel) rfl (decide_eq_true hc40) ?_
        refine zq_iconst 50 (show zop 275 49 = some (.iconst 0, 1) by decide +kernel) rfl rfl ?_
        exact h
    · rw [if_neg hc39] at h
      refine zq_icmpT 45 (show zop 275 31 = some (.if_icmp .lt 14, 3) by decide +kernel) rfl (decide_eq_true (Int.not_le.mp hc39)) ?_
      exact h
  · rw [if_neg hc38] at h
    refine zq_icmpT 137 (show zop 275 24 = some (.if_icmp .ge 113, 3) by decide +kernel) rfl (decide_eq_true (Int.not_lt.mp hc38)) ?_
    refine zq_aload_n 138 (show zop 275 137 = some (.aload_n 1, 1) by decide +kernel) rfl rfl ?_
    refine zq_iconst 139 (show zop 275 138 = some (.iconst 2, 1) by decide +kernel) rfl rfl ?_
    obtain ⟨g11, h⟩ := h
    obtain ⟨g9, h⟩ := h
    refine zq_iaload 140 12 (show zop 275 139 = some (.iaload, 1) by decide +kernel) rfl (by decide) g11 g9 ?_
    refine zq_bipush 142 (show zop 275 140 = some (.bipush 8, 2) by decide +kernel) rfl (by decide) ?_
    by_cases hc41 : 8 < (w1.2.1 682 ((2 : Int)).toNat)
    · rw [if_pos hc41] at h
      refine zq_icmpF 145 169 (show zop 275 142 = some (.if_icmp .le 27, 3) by decide +kernel) rfl rfl (decide_eq_false (Int.not_le.mpr hc41)) ?_
      refine zq_aload_n 146 (show zop 275 145 = some (.aload_n 0, 1) by decide +kernel) rfl rfl ?_
      refine zq_iload_n 147 (show zop 275 146 = some (.iload_n 2, 1) by decide +kernel) rfl rfl ?_
      refine zq_aload_n 148 (show zop 275 147 = some (.aload_n 1, 1) by decide +kernel) rfl rfl ?_
      refine zq_iconst 149 (show zop 275 148 = some (.iconst 2, 1) by decide +kernel) rfl rfl ?_
      obtain ⟨g14, h⟩ := h
      obtain ⟨g12, h⟩ := h
      refine zq_iaload 150 12 (show zop 275 149 = some (.iaload, 1) by decide +kernel) rfl (by decide) g14 g12 ?_
      obtain ⟨g15, h⟩ := h
      refine zq_irem 151 (show zop 275 150 = some (.irem, 1) by decide +kernel) rfl g15 ?_
      refine zq_iload 153 (show zop 275 151 = some (.iload 4, 2) by decide +kernel) rfl rfl ?_
      refine zq_iload 155 (show zop 275 153 = some (.iload 5, 2) by decide +kernel) rfl rfl ?_
      obtain ⟨g19, h⟩ := h
      obtain ⟨v17, w16, hD18, h⟩ := h
      refine zq_lx (v := some (.inl v17)) (w' := w16) (nj := 4) (j := 262) (c := 4) (t := []) (as := [(.inr (.inr (some 0))), (.inl (Int.tmod x2 (w1.2.1 682 ((2 : Int)).toNat))), (.inl (Int.tmod x2 4)), (.inl (Int.tmod x3 4))]) 158 [(.inl v17)] (show zop 275 155 = some (.invokestatic 285, 3) by decide +kernel) (by decide +kernel) rfl (by decide +kernel) (by decide +kernel) rfl rfl rfl rfl rfl hD18 rfl g19 ?_
      refine zq_bipush 160 (show zop 275 158 = some (.bipush (-2), 2) by decide +kernel) rfl (by decide) ?_
      by_cases hc42 : (-2) ≤ v17
      · refine zq_icmpF 163 167 (show zop 275 160 = some (.if_icmp .lt 7, 3) by decide +kernel) rfl rfl (decide_eq_false (Int.not_lt.mpr hc42)) ?_
        refine zq_iconst 164 (show zop 275 163 = some (.iconst 1, 1) by decide +kernel) rfl rfl ?_
        refine zq_goto 168 (show zop 275 164 = some (.goto 4, 3) by decide +kernel) rfl ?_
        have h9 := h; simp only [if_pos hc42] at h9; exact h9
      · refine zq_icmpT 167 (show zop 275 160 = some (.if_icmp .lt 7, 3) by decide +kernel) rfl (decide_eq_true (Int.not_le.mp hc42)) ?_
        refine zq_iconst 168 (show zop 275 167 = some (.iconst 0, 1) by decide +kernel) rfl rfl ?_
        have h9 := h; simp only [if_neg hc42] at h9; exact h9
    · rw [if_neg hc41] at h
      refine zq_icmpT 169 (show zop 275 142 = some (.if_icmp .le 27, 3) by decide +kernel) rfl (decide_eq_true (Int.not_lt.mp hc41)) ?_
      refine zq_aload_n 170 (show zop 275 169 = some (.aload_n 1, 1) by decide +kernel) rfl rfl ?_
      refine zq_iconst 171 (show zop 275 170 = some (.iconst 2, 1) by decide +kernel) rfl rfl ?_
      obtain ⟨g22, h⟩ := h
      obtain ⟨g20, h⟩ := h
      refine zq_iaload 172 12 (show zop 275 171 = some (.iaload, 1) by decide +kernel) rfl (by decide) g22 g20 ?_
      refine zq_istore 174 [(some (.inr (.inr (some 0)))), (some (.inr (.inr (some 682)))), (some (.inl x2)), (some (.inl x3)), (some (.inl (Int.tmod x2 4))), (some (.inl (Int.tmod x3 4))), (some (.inl v2)), (some (.inl (w1.2.1 682 ((2 : Int)).toNat))), none, none, none, none, none, none] (show zop 275 172 = some (.istore 7, 2) by decide +kernel) rfl rfl rfl ?_
      refine zq_aload_n 175 (show zop 275 174 = some (.aload_n 0, 1) by decide +kernel) rfl rfl ?_
      refine zq_iload 177 (show zop 275 175 = some (.iload 5, 2) by decide +kernel) rfl rfl ?_
      obtain ⟨g26, h⟩ := h
      obtain ⟨v24, w23, hD25, h⟩ := h
      refine zq_lx (v := some (.inl v24)) (w' := w23) (nj := 2) (j := 274) (c := 90) (t := []) (as := [(.inr (.inr (some 0))), (.inl (Int.tmod x3 4))]) 180 [(.inl v24)] (show zop 275 177 = some (.invokestatic 276, 3) by decide +kernel) (by decide +kernel) rfl (by decide +kernel) (by decide +kernel) rfl rfl rfl rfl rfl hD25 rfl g26 ?_
      refine zq_istore 182 [(some (.inr (.inr (some 0)))), (some (.inr (.inr (some 682)))), (some (.inl x2)), (some (.inl x3)), (some (.inl (Int.tmod x2 4))), (some (.inl (Int.tmod x3 4))), (some (.inl v2)), (some (.inl (w1.2.1 682 ((2 : Int)).toNat))), (some (.inl v24)), none, none, none, none, none] (show zop 275 180 = some (.istore 8, 2) by decide +kernel) rfl rfl rfl ?_
      refine zq_iconst 183 (show zop 275 182 = some (.iconst 0, 1) by decide +kernel) rfl rfl ?_
      refine zq_istore 185 [(some (.inr (.inr (some 0)))), (some (.inr (.inr (some 682)))), (some (.inl x2)), (some (.inl x3)), (some (.inl (Int.tmod x2 4))), (some (.inl (Int.tmod x3 4))), (some (.inl v2)), (some (.inl (w1.2.1 682 ((2 : Int)).toNat))), (some (.inl v24)), (some (.inl 0)), none, none, none, none] (show zop 275 183 = some (.istore 9, 2) by decide +kernel) rfl rfl rfl ?_
      refine zq_iconst 186 (show zop 275 185 = some (.iconst 0, 1) by decide +kernel) rfl rfl ?_
      refine zq_istore 188 [(some (.inr (.inr (some 0)))), (some (.inr (.inr (some 682)))), (some (.inl x2)), (some (.inl x3)), (some (.inl (Int.tmod x2 4))), (some (.inl (Int.tmod x3 4))), (some (.inl v2)), (some (.inl (w1.2.1 682 ((2 : Int)).toNat))), (some (.inl v24)), (some (.inl 0)), (some (.inl 0)), none, none, none] (show zop 275 186 = some (.istore 10, 2) by decide +kernel) rfl rfl rfl ?_
      refine zq_aload_n 189 (show zop 275 188 = some (.aload_n 1, 1) by decide +kernel) rfl rfl ?_
      refine zq_iconst 190 (show zop 275 189 = some (.iconst 2, 1) by decide +kernel) rfl rfl ?_
      refine zq_dup2 191 (show zop 275 190 = some (.dup2, 1) by decide +kernel) rfl rfl rfl ?_
      obtain ⟨g29, h⟩ := h
      obtain ⟨g27, h⟩ := h
      refine zq_iaload 192 12 (show zop 275 191 = some (.iaload, 1) by decide +kernel) rfl (by decide) g29 g27 ?_
      refine zq_iconst 193 (show zop 275 192 = some (.iconst 1, 1) by decide +kernel) rfl rfl ?_
      obtain ⟨g30, h⟩ := h
      refine zq_iadd 194 (show zop 275 193 = some (.iadd, 1) by decide +kernel) rfl g30 ?_
      obtain ⟨g33, h⟩ := h
      obtain ⟨g31, h⟩ := h
      refine zq_iastore 195 12 (show zop 275 194 = some (.iastore, 1) by decide +kernel) rfl (by decide) g33 g31 ?_
      refine zq_aload_n 196 (show zop 275 195 = some (.aload_n 0, 1) by decide +kernel) rfl rfl ?_
      refine zq_iload 198 (show zop 275 196 = some (.iload 4, 2) by decide +kernel) rfl rfl ?_
      refine zq_iload 200 (show zop 275 198 = some (.iload 5, 2) by decide +kernel) rfl rfl ?_
      obtain ⟨g37, h⟩ := h
      obtain ⟨v35, s34, hD36, h⟩ := h
      refine zq_vi (v := some (.inl v35)) (σ' := s34) (nj := 3) (j := 222) (c := 3) (t := []) (as := [(.inr (.inr (some 0))), (.inl (Int.tmod x2 4)), (.inl (Int.tmod x3 4))]) 203 [(.inl v35)] (show zop 275 200 = some (.invokevirtual 288, 3) by decide +kernel) (by decide +kernel) rfl (by decide +kernel) rfl rfl rfl rfl rfl rfl (by decide +kernel) (by decide +kernel) (clS_0 rfl) hD36 rfl g37 ?_
      refine zq_iload 205 (show zop 275 203 = some (.iload 7, 2) by decide +kernel) rfl rfl ?_
      by_cases hc43 : v35 = (w1.2.1 682 ((2 : Int)).toNat)
      · refine zq_icmpF 208 212 (show zop 275 205 = some (.if_icmp .ne 7, 3) by decide +kernel) rfl rfl (decide_eq_false (fun h9 => h9 hc43)) ?_
        refine zq_iconst 209 (show zop 275 208 = some (.iconst 1, 1) by decide +kernel) rfl rfl ?_
        refine zq_goto 213 (show zop 275 209 = some (.goto 4, 3) by decide +kernel) rfl ?_
        have h9 := h; simp only [if_pos hc43] at h9; exact h9
      · refine zq_icmpT 212 (show zop 275 205 = some (.if_icmp .ne 7, 3) by decide +kernel) rfl (decide_eq_true hc43) ?_
        refine zq_iconst 213 (show zop 275 212 = some (.iconst 0, 1) by decide +kernel) rfl rfl ?_
        have h9 := h; simp only [if_neg hc43] at h9; exact h9
def K276_39 (d1 : Option AV) (x2 : Int) (x3 : Int) (x4 : Int) (d5 : Option AV) (d6 : Option AV) (d7 : Option AV) (d8 : Option AV) (d9 : Option AV) (y0 : Int) (w : WS) (r : Nat) (o : Ro) : Prop := Lg 276 39 [(some (.inr (.inr (some 0)))), d1, (some (.inl x2)), (some (.inl x3)), (some (.inl x4)), d5, d6, d7, d8, d9] [(.inl y0)] w r o
def K276_47 (d1 : Option AV) (x2 : Int) (x3 : Int) (x4 : Int) (x5 : Int) (x6 : Int) (x7 : Int) (d8 : Option AV) (d9 : Option AV) (w : WS) (r : Nat) (o : Ro) : Prop := Lg 276 47 [(some (.inr (.inr (some 0)))), d1, (some (.inl x2)), (some (.inl x3)), (some (.inl x4)), (some (.inl x5)), (some (.inl x6)), (some (.inl x7)), d8, d9] [] w r o
def K276_83 (d1 : Option AV) (x2 : Int) (x3 : Int) (x4 : Int) (x5 : Int) (x6 : Int) (x7 : Int) (d8 : Option AV) (d9 : Option AV) (w : WS) (r : Nat) (o : Ro) : Prop := Lg 276 83 [(some (.inr (.inr (some 0)))), d1, (some (.inl x2)), (some (.inl x3)), (some (.inl x4)), (some (.inl x5)), (some (.inl x6)), (some (.inl x7)), d8, d9] [] w r o
def K276_158 (d0 : Option AV) (d1 : Option AV) (d2 : Option AV) (d3 : Option AV) (d4 : Option AV) (d5 : Option AV) (d6 : Option AV) (d7 : Option AV) (d8 : Option AV) (d9 : Option AV) (w : WS) (r : Nat) (o : Ro) : Prop := Lg 276 158 [d0, d1, d2, d3, d4, d5, d6, d7, d8, d9] [] w r o
def K276_159 (d0 : Option AV) (d1 : Option AV) (d2 : Option AV) (d3 : Option AV) (d4 : Option AV) (d5 : Option AV) (d6 : Option AV) (d7 : Option AV) (d8 : Option AV) (d9 : Option AV) (y0 : Int) (w : WS) (r : Nat) (o : Ro) : Prop := Lg 276 159 [d0, d1, d2, d3, d4, d5, d6, d7, d8, d9] [(.inl y0)] w r o
def K276_186 (d1 : Option AV) (d2 : Option AV) (d3 : Option AV) (d4 : Option AV) (d5 : Option AV) (x6 : Int) (x7 : Int) (d8 : Option AV) (d9 : Option AV) (w : WS) (r : Nat) (o : Ro) : Prop := Lg 276 186 [(some (.inr (.inr (some 0)))), d1, d2, d3, d4, d5, (some (.inl x6)), (some (.inl x7)), d8, d9] [] w r o
def K276_187 (d1 : Option AV) (d2 : Option AV) (d3 : Option AV) (d4 : Option AV) (d5 : Option AV) (x6 : Int) (x7 : Int) (d8 : Option AV) (d9 : Option AV) (y0 : Int) (w : WS) (r : Nat) (o : Ro) : Prop := Lg 276 187 [(some (.inr (.inr (some 0)))), d1, d2, d3, d4, d5, (some (.inl x6)), (some (.inl x7)), d8, d9] [(.inl y0)] w r o
def K276_192 (d1 : Option AV) (d2 : Option AV) (d3 : Option AV) (d4 : Option AV) (x5 : Int) (x6 : Int) (x7 : Int) (d8 : Option AV) (x9 : Int) (w : WS) (r : Nat) (o : Ro) : Prop := Lg 276 192 [(some (.inr (.inr (some 0)))), d1, d2, d3, d4, (some (.inl x5)), (some (.inl x6)), (some (.inl x7)), d8, (some (.inl x9))] [] w r o
def K276_234 (d0 : Option AV) (d1 : Option AV) (d2 : Option AV) (d3 : Option AV) (d4 : Option AV) (x5 : Int) (x6 : Int) (d7 : Option AV) (d8 : Option AV) (d9 : Option AV) (w : WS) (r : Nat) (o : Ro) : Prop := Lg 276 234 [d0, d1, d2, d3, d4, (some (.inl x5)), (some (.inl x6)), d7, d8, d9] [] w r o
def K276_226 (d1 : Option AV) (d2 : Option AV) (d3 : Option AV) (d4 : Option AV) (d5 : Option AV) (x6 : Int) (x7 : Int) (d8 : Option AV) (x9 : Int) (y0 : Int) (w : WS) (r : Nat) (o : Ro) : Prop := Lg 276 226 [(some (.inr (.inr (some 0)))), d1, d2, d3, d4, d5, (some (.inl x6)), (some (.inl x7)), d8, (some (.inl x9))] [(.inl y0)] w r o
def K276_248 (d0 : Option AV) (d1 : Option AV) (d2 : Option AV) (d3 : Option AV) (d4 : Option AV) (d5 : Option AV) (d6 : Option AV) (d7 : Option AV) (d8 : Option AV) (d9 : Option AV) (w : WS) (r : Nat) (o : Ro) : Prop := Lg 276 248 [d0, d1, d2, d3, d4, d5, d6, d7, d8, d9] [] w r o
def K276_249 (d0 : Option AV) (d1 : Option AV) (d2 : Option AV) (d3 : Option AV) (d4 : Option AV) (d5 : Option AV) (d6 : Option AV) (d7 : Option AV) (d8 : Option AV) (d9 : Option AV) (y0 : Int) (w : WS) (r : Nat) (o : Ro) : Prop := Lg 276 249 [d0, d1, d2, d3, d4, d5, d6, d7, d8, d9] [(.inl y0)] w r o
theorem bK276_39 {d1 : Option AV} {x2 : Int} {x3 : Int} {x4 : Int} {d5 : Option AV} {d6 : Option AV} {d7 : Option AV} {d8 : Option AV} {d9 : Option AV} {y0 : Int} {w : WS} {r : Nat} {o : Ro} (h : K276_47 d1 x2 x3 x4 y0 0 0 d8 d9 w r o) : K276_39 d1 x2 x3 x4 d5 d6 d7 d8 d9 y0 w r o := by
  show Lg 276 39 [(some (.inr (.inr (some 0)))), d1, (some (.inl x2)), (some (.inl x3)), (some (.inl x4)), d5, d6, d7, d8, d9] [(.inl y0)] w r o
  refine zq_istore 41 [(some (.inr (.inr (some 0)))), d1, (some (.inl x2)), (some (.inl x3)), (some (.inl x4)), (some (.inl y0)), d6, d7, d8, d9] (show zop 276 39 = some (.istore 5, 2) by decide +kernel) rfl rfl rfl ?_
  refine zq_iconst 42 (show zop 276 41 = some (.iconst 0, 1) by decide +kernel) rfl rfl ?_
  refine zq_istore 44 [(some (.inr (.inr (some 0)))), d1, (some (.inl x2)), (some (.inl x3)), (some (.inl x4)), (some (.inl y0)), (some (.inl 0)), d7, d8, d9] (show zop 276 42 = some (.istore 6, 2) by decide +kernel) rfl rfl rfl ?_
  refine zq_iconst 45 (show zop 276 44 = some (.iconst 0, 1) by decide +kernel) rfl rfl ?_
  refine zq_istore 47 [(some (.inr (.inr (some 0)))), d1, (some (.inl x2)), (some (.inl x3)), (some (.inl x4)), (some (.inl y0)), (some (.inl 0)), (some (.inl 0)), d8, d9] (show zop 276 45 = some (.istore 7, 2) by decide +kernel) rfl rfl rfl ?_
  exact h
theorem bK276_47 {d1 : Option AV} {x2 : Int} {x3 : Int} {x4 : Int} {x5 : Int} {x6 : Int} {x7 : Int} {d8 : Option AV} {d9 : Option AV} {w : WS} {r : Nat} {o : Ro} (h : (2 ≤ r) ∧ (∃ (v2 : Int) (s1 : Sg), Dc 225 [(.inr (.inr (some 0))), (.inl x3), (.inl x7)] w.2.2 (.inl (some (.inl v2))) s1 ∧ (if v2 = (-1) then K276_83 d1 x2 x3 x4 x5 x6 0 d8 d9 (wS w s1) (r - 2) o else (2 ≤ (r - 2)) ∧ (∃ (v6 : Int) (s5 : Sg), Dc 225 [(.inr (.inr (some 0))), (.inl x3), (.inl x7)] (wS w s1).2.2 (.inl (some (.inl v6))) s5 ∧ (-2147483648 ≤ (x6 + (Int.tdiv v6 1000)) ∧ (x6 + (Int.tdiv v6 1000)) ≤ 2147483647) ∧ (-2147483648 ≤ (x7 + 1) ∧ (x7 + 1) ≤ 2147483647) ∧ K276_47 d1 x2 x3 x4 x5 (x6 + (Int.tdiv v6 1000)) (x7 + 1) d8 d9 (wS (wS w s1) s5) ((r - 2) - 2) o)))) : K276_47 d1 x2 x3 x4 x5 x6 x7 d8 d9 w r o := by
  show Lg 276 47 [(some (.inr (.inr (some 0)))), d1, (some (.inl x2)), (some (.inl x3)), (some (.inl x4)), (some (.inl x5)), (some (.inl x6)), (some (.inl x7)), d8, d9] [] w r o
  refine zq_aload_n 48 (show zop 276 47 = some (.aload_n 0, 1) by decide +kernel) rfl rfl ?_
  refine zq_iload_n 49 (show zop 276 48 = some (.iload_n 3, 1) by decide +kernel) rfl rfl ?_
  refine zq_iload 51 (show zop 276 49 = some (.iload 7, 2) by decide +kernel) rfl rfl ?_
  obtain ⟨g4, h⟩ := h
  obtain ⟨v2, s1, hD3, h⟩ := h
  refine zq_vi (v := some (.inl v2)) (σ' := s1) (nj := 3) (j := 225) (c := 2) (t := []) (as := [(.inr (.inr (some 0))), (.inl x3), (.inl x7)]) 54 [(.inl v2)] (show zop 276 51 = some (.invokevirtual 291, 3) by decide +kernel) (by decide +kernel) rfl (by decide +kernel) rfl rfl rfl rfl rfl rfl (by decide +kernel) (by decide +kernel) (clS_0 rfl) hD3 rfl g4 ?_
  refine zq_iconst 55 (show zop 276 54 = some (.iconst (-1), 1) by decide +kernel) rfl rfl ?_
  by_cases hc11 : v2 = (-1)
  · rw [if_pos hc11] at h
    refine zq_icmpT 80 (show zop 276 55 = some (.if_icmp .eq 25, 3) by decide +kernel) rfl (decide_eq_true hc11) ?_
    refine zq_iconst 81 (show zop 276 80 = some (.iconst 0, 1) by decide +kernel) rfl rfl ?_
    refine zq_istore 83 [(some (.inr (.inr (some 0)))), d1, (some (.inl x2)), (some (.inl x3)), (some (.inl x4)), (some (.inl x5)), (some (.inl x6)), (some (.inl 0)), d8, d9] (show zop 276 81 = some (.istore 7, 2) by decide +kernel) rfl rfl rfl ?_
    exact h
  · rw [if_neg hc11] at h
    refine zq_icmpF 58 80 (show zop 276 55 = some (.if_icmp .eq 25, 3) by decide +kernel) rfl rfl (decide_eq_false hc11) ?_
    refine zq_iload 60 (show zop 276 58 = some (.iload 6, 2) by decide +kernel) rfl rfl ?_
    refine zq_aload_n 61 (show zop 276 60 = some (.aload_n 0, 1) by decide +kernel) rfl rfl ?_
    refine zq_iload_n 62 (show zop 276 61 = some (.iload_n 3, 1) by decide +kernel) rfl rfl ?_
    refine zq_iload 64 (show zop 276 62 = some (.iload 7, 2) by decide +kernel) rfl rfl ?_
    obtain ⟨g8, h⟩ := h
    obtain ⟨v6, s5, hD7, h⟩ := h
    refine zq_vi (v := some (.inl v6)) (σ' := s5) (nj := 3) (j := 225) (c := 2) (t := [(.inl x6)]) (as := [(.inr (.inr (some 0))), (.inl x3), (.inl x7)]) 67 [(.inl v6), (.inl x6)] (show zop 276 64 = some (.invokevirtual 291, 3) by decide +kernel) (by decide +kernel) rfl (by decide +kernel) rfl rfl rfl rfl rfl rfl (by decide +kernel) (by decide +kernel) (clS_0 rfl) hD7 rfl g8 ?_
    refine zq_sipush 70 (show zop 276 67 = some (.sipush 1000, 3) by decide +kernel) rfl (by decide) ?_
    refine zq_idiv 71 (show zop 276 70 = some (.idiv, 1) by decide +kernel) rfl (by decide) ?_
    obtain ⟨g9, h⟩ := h
    refine zq_iadd 72 (show zop 276 71 = some (.iadd, 1) by decide +kernel) rfl g9 ?_
    refine zq_istore 74 [(some (.inr (.inr (some 0)))), d1, (some (.inl x2)), (some (.inl x3)), (some (.inl x4)), (some (.inl x5)), (some (.inl (x6 + (Int.tdiv v6 1000)))), (some (.inl x7)), d8, d9] (show zop 276 72 = some (.istore 6, 2) by decide +kernel) rfl rfl rfl ?_
    obtain ⟨g10, h⟩ := h
    refine zq_iinc 77 [(some (.inr (.inr (some 0)))), d1, (some (.inl x2)), (some (.inl x3)), (some (.inl x4)), (some (.inl x5)), (some (.inl (x6 + (Int.tdiv v6 1000)))), (some (.inl (x7 + 1))), d8, d9] (show zop 276 74 = some (.iinc 7 1, 3) by decide +kernel) rfl rfl g10 rfl ?_
    refine zq_goto 47 (show zop 276 77 = some (.goto (-30), 3) by decide +kernel) rfl ?_
    exact h
theorem bK276_83 {d1 : Option AV} {x2 : Int} {x3 : Int} {x4 : Int} {x5 : Int} {x6 : Int} {x7 : Int} {d8 : Option AV} {d9 : Option AV} {w : WS} {r : Nat} {o : Ro} (h : (2 ≤ r) ∧ (∃ (v2 : Int) (s1 : Sg), Dc 225 [(.inr (.inr (some 0))), (.inl x4), (.inl x7)] w.2.2 (.inl (some (.inl v2))) s1 ∧ (if v2 = (-1) then (4 ≤ (r - 2)) ∧ (∃ (v6 : Int) (w5 : WS), Lx 262 [(.inr (.inr (some 0))), (.inl x4), (.inl 0), (.inl 3)] (wS w s1) (.inl (some (.inl v6)), w5) ∧ (4 ≤ ((r - 2) - 4)) ∧ (∃ (v10 : Int) (w9 : WS), Lx 262 [(.inr (.inr (some 0))), (.inl x2), (.inl 0), (.inl 2)] w5 (.inl (some (.inl v10)), w9) ∧ (if v10 = (-2) then (if x5 = 0 then K276_158 (some (.inr (.inr (some 0)))) d1 (some (.inl x2)) (some (.inl x3)) (some (.inl x4)) (some (.inl x5)) (some (.inl x6)) (some (.inl v6)) (some (.inl v10)) d9 w9 (((r - 2) - 4) - 4) o else (if x6 = 0 then K276_159 (some (.inr (.inr (some 0)))) d1 (some (.inl x2)) (some (.inl x3)) (some (.inl x4)) (some (.inl x5)) (some (.inl x6)) (some (.inl v6)) (some (.inl v10)) d9 1 w9 (((r - 2) - 4) - 4) o else K276_158 (some (.inr (.inr (some 0)))) d1 (some (.inl x2)) (some (.inl x3)) (some (.inl x4)) (some (.inl x5)) (some (.inl x6)) (some (.inl v6)) (some (.inl v10)) d9 w9 (((r - 2) - 4) - 4) o)) else (if x5 = 0 then K276_186 d1 (some (.inl x2)) (some (.inl x3)) (some (.inl x4)) (some (.inl x5)) x6 v6 (some (.inl v10)) d9 w9 (((r - 2) - 4) - 4) o else (if 0 ≤ v6 then (4 ≤ (((r - 2) - 4) - 4)) ∧ (∃ (v14 : Int) (s13 : Sg), Dc 226 [(.inr (.inr (some 0))), (.inl x3), (.inl 2), (.inl 2)] w9.2.2 (.inl (some (.inl v14))) s13 ∧ (if v14 = v6 then K276_187 d1 (some (.inl x2)) (some (.inl x3)) (some (.inl x4)) (some (.inl x5)) x6 v6 (some (.inl v10)) d9 1 (wS w9 s13) ((((r - 2) - 4) - 4) - 4) o else K276_186 d1 (some (.inl x2)) (some (.inl x3)) (some (.inl x4)) (some (.inl x5)) x6 v6 (some (.inl v10)) d9 (wS w9 s13) ((((r - 2) - 4) - 4) - 4) o)) else K276_186 d1 (some (.inl x2)) (some (.inl x3)) (some (.inl x4)) (some (.inl x5)) x6 v6 (some (.inl v10)) d9 w9 (((r - 2) - 4) - 4) o))))) else (2 ≤ (r - 2)) ∧ (∃ (v18 : Int) (s17 : Sg), Dc 225 [(.inr (.inr (some 0))), (.inl x4), (.inl x7)] (wS w s1).2.2 (.inl (some (.inl v18))) s17 ∧ (-2147483648 ≤ (x6 - (Int.tdiv v18 1000)) ∧ (x6 - (Int.tdiv v18 1000)) ≤ 2147483647) ∧ (-2147483648 ≤ (x7 + 1) ∧ (x7 + 1) ≤ 2147483647) ∧ K276_83 d1 x2 x3 x4 x5 (x6 - (Int.tdiv v18 1000)) (x7 + 1) d8 d9 (wS (wS w s1) s17) ((r - 2) - 2) o)))) : K276_83 d1 x2 x3 x4 x5 x6 x7 d8 d9 w r o := by
  show Lg 276 83 [(some (.inr (.inr (some 0)))), d1, (some (.inl x2)), (some (.inl x3)), (some (.inl x4)), (some (.inl x5)), (some (.inl x6)), (some (.inl x7)), d8, d9] [] w r o
  refine zq_aload_n 84 (show zop 276 83 = some (.aload_n 0, 1) by decide +kernel) rfl rfl ?_
  refine zq_iload 86 (show zop 276 84 = some (.iload 4, 2) by decide +kernel) rfl rfl ?_
  refine zq_iload 88 (show zop 276 86 = some (.iload 7, 2) by decide +kernel) rfl rfl ?_
  obtain ⟨g4, h⟩ := h
  obtain ⟨v2, s1, hD3, h⟩ := h
  refine zq_vi (v := some (.inl v2)) (σ' := s1) (nj := 3) (j := 225) (c := 2) (t := []) (as := [(.inr (.inr (some 0))), (.inl x4), (.inl x7)]) 91 [(.inl v2)] (show zop 276 88 = some (.invokevirtual 291, 3) by decide +kernel) (by decide +kernel) rfl (by decide +kernel) rfl rfl rfl rfl rfl rfl (by decide +kernel) (by decide +kernel) (clS_0 rfl) hD3 rfl g4 ?_
  refine zq_iconst 92 (show zop 276 91 = some (.iconst (-1), 1) by decide +kernel) rfl rfl ?_
  by_cases hc23 : v2 = (-1)
  · rw [if_pos hc23] at h
    refine zq_icmpT 118 (show zop 276 92 = some (.if_icmp .eq 26, 3) by decide +kernel) rfl (decide_eq_true hc23) ?_
    refine zq_aload_n 119 (show zop 276 118 = some (.aload_n 0, 1) by decide +kernel) rfl rfl ?_
    refine zq_iload 121 (show zop 276 119 = some (.iload 4, 2) by decide +kernel) rfl rfl ?_
    refine zq_iconst 122 (show zop 276 121 = some (.iconst 0, 1) by decide +kernel) rfl rfl ?_
    refine zq_iconst 123 (show zop 276 122 = some (.iconst 3, 1) by decide +kernel) rfl rfl ?_
    obtain ⟨g8, h⟩ := h
    obtain ⟨v6, w5, hD7, h⟩ := h
    refine zq_lx (v := some (.inl v6)) (w' := w5) (nj := 4) (j := 262) (c := 4) (t := []) (as := [(.inr (.inr (some 0))), (.inl x4), (.inl 0), (.inl 3)]) 126 [(.inl v6)] (show zop 276 123 = some (.invokestatic 285, 3) by decide +kernel) (by decide +kernel) rfl (by decide +kernel) (by decide +kernel) rfl rfl rfl rfl rfl hD7 rfl g8 ?_
    refine zq_istore 128 [(some (.inr (.inr (some 0)))), d1, (some (.inl x2)), (some (.inl x3)), (some (.inl x4)), (some (.inl x5)), (some (.inl x6)), (some (.inl v6)), d8, d9] (show zop 276 126 = some (.istore 7, 2) by decide +kernel) rfl rfl rfl ?_
    refine zq_aload_n 129 (show zop 276 128 = some (.aload_n 0, 1) by decide +kernel) rfl rfl ?_
    refine zq_iload_n 130 (show zop 276 129 = some (.iload_n 2, 1) by decide +kernel) rfl rfl ?_
    refine zq_iconst 131 (show zop 276 130 = some (.iconst 0, 1) by decide +kernel) rfl rfl ?_
    refine zq_iconst 132 (show zop 276 131 = some (.iconst 2, 1) by decide +kernel) rfl rfl ?_
    obtain ⟨g12, h⟩ := h
    obtain ⟨v10, w9, hD11, h⟩ := h
    refine zq_lx (v := some (.inl v10)) (w' := w9) (nj := 4) (j := 262) (c := 4) (t := []) (as := [(.inr (.inr (some 0))), (.inl x2), (.inl 0), (.inl 2)]) 135 [(.inl v10)] (show zop 276 132 = some (.invokestatic 285, 3) by decide +kernel) (by decide +kernel) rfl (by decide +kernel) (by decide +kernel) rfl rfl rfl rfl rfl hD11 rfl g12 ?_
    refine zq_istore 137 [(some (.inr (.inr (some 0)))), d1, (some (.inl x2)), (some (.inl x3)), (some (.inl x4)), (some (.inl x5)), (some (.inl x6)), (some (.inl v6)), (some (.inl v10)), d9] (show zop 276 135 = some (.istore 8, 2) by decide +kernel) rfl rfl rfl ?_
    refine zq_iload 139 (show zop 276 137 = some (.iload 8, 2) by decide +kernel) rfl rfl ?_
    refine zq_bipush 141 (show zop 276 139 = some (.bipush (-2), 2) by decide +kernel) rfl (by decide) ?_
    by_cases hc24 : v10 = (-2)
    · rw [if_pos hc24] at h
      refine zq_icmpF 144 160 (show zop 276 141 = some (.if_icmp .ne 19, 3) by decide +kernel) rfl rfl (decide_eq_false (fun h9 => h9 hc24)) ?_
      refine zq_iload 146 (show zop 276 144 = some (.iload 5, 2) by decide +kernel) rfl rfl ?_
      by_cases hc25 : x5 = 0
      · rw [if_pos hc25] at h
        refine zq_ifT 158 (show zop 276 146 = some (.ifCond .eq 12, 3) by decide +kernel) rfl (decide_eq_true hc25) ?_
        exact h
      · rw [if_neg hc25] at h
        refine zq_ifF 149 158 (show zop 276 146 = some (.ifCond .eq 12, 3) by decide +kernel) rfl rfl (decide_eq_false hc25) ?_
        refine zq_iload 151 (show zop 276 149 = some (.iload 6, 2) by decide +kernel) rfl rfl ?_
        by_cases hc26 : x6 = 0
        · rw [if_pos hc26] at h
          refine zq_ifF 154 158 (show zop 276 151 = some (.ifCond .ne 7, 3) by decide +kernel) rfl rfl (decide_eq_false (fun h9 => h9 hc26)) ?_
          refine zq_iconst 155 (show zop 276 154 = some (.iconst 1, 1) by decide +kernel) rfl rfl ?_
          refine zq_goto 159 (show zop 276 155 = some (.goto 4, 3) by decide +kernel) rfl ?_
          exact h
        · rw [if_neg hc26] at h
          refine zq_ifT 158 (show zop 276 151 = some (.ifCond .ne 7, 3) by decide +kernel) rfl (decide_eq_true hc26) ?_
          exact h
    · rw [if_neg hc24] at h
      refine zq_icmpT 160 (show zop 276 141 = some (.if_icmp .ne 19, 3) by decide +kernel) rfl (decide_eq_true hc24) ?_
      refine zq_iload 162 (show zop 276 160 = some (.iload 5, 2) by decide +kernel) rfl rfl ?_
      by_cases hc27 : x5 = 0
      · rw [if_pos hc27] at h
        refine zq_ifT 186 (show zop 276 162 = some (.ifCond .eq 24, 3) by decide +kernel) rfl (decide_eq_true hc27) ?_
        exact h
      · rw [if_neg hc27] at h
        refine zq_ifF 165 186 (show zop 276 162 = some (.ifCond .eq 24, 3) by decide +kernel) rfl rfl (decide_eq_false hc27) ?_
        refine zq_iload 167 (show zop 276 165 = some (.iload 7, 2) by decide +kernel) rfl rfl ?_
        by_cases hc28 : 0 ≤ v6
        · rw [if_pos hc28] at h
          refine zq_ifF 170 186 (show zop 276 167 = some (.ifCond .lt 19, 3) by decide +kernel) rfl rfl (decide_eq_false (Int.not_lt.mpr hc28)) ?_
          refine zq_aload_n 171 (show zop 276 170 = some (.aload_n 0, 1) by decide +kernel) rfl rfl ?_
          refine zq_iload_n 172 (show zop 276 171 = some (.iload_n 3, 1) by decide +kernel) rfl rfl ?_
          refine zq_iconst 173 (show zop 276 172 = some (.iconst 2, 1) by decide +kernel) rfl rfl ?_
          refine zq_iconst 174 (show zop 276 173 = some (.iconst 2, 1) by decide +kernel) rfl rfl ?_
          obtain ⟨g16, h⟩ := h
          obtain ⟨v14, s13, hD15, h⟩ := h
          refine zq_vi (v := some (.inl v14)) (σ' := s13) (nj := 4) (j := 226) (c := 4) (t := []) (as := [(.inr (.inr (some 0))), (.inl x3), (.inl 2), (.inl 2)]) 177 [(.inl v14)] (show zop 276 174 = some (.invokevirtual 167, 3) by decide +kernel) (by decide +kernel) rfl (by decide +kernel) rfl rfl rfl rfl rfl rfl (by decide +kernel) (by decide +kernel) (clS_0 rfl) hD15 rfl g16 ?_
          refine zq_iload 179 (show zop 276 177 = some (.iload 7, 2) by decide +kernel) rfl rfl ?_
          by_cases hc29 : v14 = v6
          · rw [if_pos hc29] at h
            refine zq_icmpF 182 186 (show zop 276 179 = some (.if_icmp .ne 7, 3) by decide +kernel) rfl rfl (decide_eq_false (fun h9 => h9 hc29)) ?_
            refine zq_iconst 183 (show zop 276 182 = some (.iconst 1, 1) by decide +kernel) rfl rfl ?_
            refine zq_goto 187 (show zop 276 183 = some (.goto 4, 3) by decide +kernel) rfl ?_
            exact h
          · rw [if_neg hc29] at h
            refine zq_icmpT 186 (show zop 276 179 = some (.if_icmp .ne 7, 3) by decide +kernel) rfl (decide_eq_true hc29) ?_
            exact h
        · rw [if_neg hc28] at h
          refine zq_ifT 186 (show zop 276 167 = some (.ifCond .lt 19, 3) by decide +kernel) rfl (decide_eq_true (Int.not_le.mp hc28)) ?_
          exact h
  · rw [if_neg hc23] at h
    refine zq_icmpF 95 118 (show zop 276 92 = some (.if_icmp .eq 26, 3) by decide +kernel) rfl rfl (decide_eq_false hc23) ?_
    refine zq_iload 97 (show zop 276 95 = some (.iload 6, 2) by decide +kernel) rfl rfl ?_
    refine zq_aload_n 98 (show zop 276 97 = some (.aload_n 0, 1) by decide +kernel) rfl rfl ?_
    refine zq_iload 100 (show zop 276 98 = some (.iload 4, 2) by decide +kernel) rfl rfl ?_
    refine zq_iload 102 (show zop 276 100 = some (.iload 7, 2) by decide +kernel) rfl rfl ?_
    obtain ⟨g20, h⟩ := h
    obtain ⟨v18, s17, hD19, h⟩ := h
    refine zq_vi (v := some (.inl v18)) (σ' := s17) (nj := 3) (j := 225) (c := 2) (t := [(.inl x6)]) (as := [(.inr (.inr (some 0))), (.inl x4), (.inl x7)]) 105 [(.inl v18), (.inl x6)] (show zop 276 102 = some (.invokevirtual 291, 3) by decide +kernel) (by decide +kernel) rfl (by decide +kernel) rfl rfl rfl rfl rfl rfl (by decide +kernel) (by decide +kernel) (clS_0 rfl) hD19 rfl g20 ?_
    refine zq_sipush 108 (show zop 276 105 = some (.sipush 1000, 3) by decide +kernel) rfl (by decide) ?_
    refine zq_idiv 109 (show zop 276 108 = some (.idiv, 1) by decide +kernel) rfl (by decide) ?_
    obtain ⟨g21, h⟩ := h
    refine zq_isub 110 (show zop 276 109 = some (.isub, 1) by decide +kernel) rfl g21 ?_
    refine zq_istore 112 [(some (.inr (.inr (some 0)))), d1, (some (.inl x2)), (some (.inl x3)), (some (.inl x4)), (some (.inl x5)), (some (.inl (x6 - (Int.tdiv v18 1000)))), (some (.inl x7)), d8, d9] (show zop 276 110 = some (.istore 6, 2) by decide +kernel) rfl rfl rfl ?_
    obtain ⟨g22, h⟩ := h
    refine zq_iinc 115 [(some (.inr (.inr (some 0)))), d1, (some (.inl x2)), (some (.inl x3)), (some (.inl x4)), (some (.inl x5)), (some (.inl (x6 - (Int.tdiv v18 1000)))), (some (.inl (x7 + 1))), d8, d9] (show zop 276 112 = some (.iinc 7 1, 3) by decide +kernel) rfl rfl g22 rfl ?_
    refine zq_goto 83 (show zop 276 115 = some (.goto (-32), 3) by decide +kernel) rfl ?_
    exact h
theorem bK276_158 {d0 : Option AV} {d1 : Option AV} {d2 : Option AV} {d3 : Option AV} {d4 : Option AV} {d5 : Option AV} {d6 : Option AV} {d7 : Option AV} {d8 : Option AV} {d9 : Option AV} {w : WS} {r : Nat} {o : Ro} (h : K276_159 d0 d1 d2 d3 d4 d5 d6 d7 d8 d9 0 w r o) : K276_158 d0 d1 d2 d3 d4 d5 d6 d7 d8 d9 w r o := by
  show Lg 276 158 [d0, d1, d2, d3, d4, d5, d6, d7, d8, d9] [] w r o
  refine zq_iconst 159 (show zop 276 158 = some (.iconst 0, 1) by decide +kernel) rfl rfl ?_
  exact h
theorem bK276_159 {d0 : Option AV} {d1 : Option AV} {d2 : Option AV} {d3 : Option AV} {d4 : Option AV} {d5 : Option AV} {d6 : Option AV} {d7 : Option AV} {d8 : Option AV} {d9 : Option AV} {y0 : Int} {w : WS} {r : Nat} {o : Ro} (h : (y0 = 0 ∨ y0 = 1) ∧ o = (.inl (some (.inl y0)), w)) : K276_159 d0 d1 d2 d3 d4 d5 d6 d7 d8 d9 y0 w r o := by
  show Lg 276 159 [d0, d1, d2, d3, d4, d5, d6, d7, d8, d9] [(.inl y0)] w r o
  obtain ⟨g1, h⟩ := h
  exact (zq_zret (show zop 276 159 = some (.ireturn, 1) by decide +kernel) (by decide +kernel) g1 h)
theorem bK276_186 {d1 : Option AV} {d2 : Option AV} {d3 : Option AV} {d4 : Option AV} {d5 : Option AV} {x6 : Int} {x7 : Int} {d8 : Option AV} {d9 : Option AV} {w : WS} {r : Nat} {o : Ro} (h : K276_187 d1 d2 d3 d4 d5 x6 x7 d8 d9 0 w r o) : K276_186 d1 d2 d3 d4 d5 x6 x7 d8 d9 w r o := by
  show Lg 276 186 [(some (.inr (.inr (some 0)))), d1, d2, d3, d4, d5, (some (.inl x6)), (some (.inl x7)), d8, d9] [] w r o
  refine zq_iconst 187 (show zop 276 186 = some (.iconst 0, 1) by decide +kernel) rfl rfl ?_
  exact h
theorem bK276_187 {d1 : Option AV} {d2 : Option AV} {d3 : Option AV} {d4 : Option AV} {d5 : Option AV} {x6 : Int} {x7 : Int} {d8 : Option AV} {d9 : Option AV} {y0 : Int} {w : WS} {r : Nat} {o : Ro} (h : K276_192 d1 d2 d3 d4 y0 x6 x7 d8 0 w r o) : K276_187 d1 d2 d3 d4 d5 x6 x7 d8 d9 y0 w r o := by
  show Lg 276 187 [(some (.inr (.inr (some 0)))), d1, d2, d3, d4, d5, (some (.inl x6)), (some (.inl x7)), d8, d9] [(.inl y0)] w r o
  refine zq_istore 189 [(some (.inr (.inr (some 0)))), d1, d2, d3, d4, (some (.inl y0)), (some (.inl x6)), (some (.inl x7)), d8, d9] (show zop 276 187 = some (.istore 5, 2) by decide +kernel) rfl rfl rfl ?_
  refine zq_iconst 190 (show zop 276 189 = some (.iconst 0, 1) by decide +kernel) rfl rfl ?_
  refine zq_istore 192 [(some (.inr (.inr (some 0)))), d1, d2, d3, d4, (some (.inl y0)), (some (.inl x6)), (some (.inl x7)), d8, (some (.inl 0))] (show zop 276 190 = some (.istore 9, 2) by decide +kernel) rfl rfl rfl ?_
  exact h
theorem bK276_192 {d1 : Option AV} {d2 : Option AV} {d3 : Option AV} {d4 : Option AV} {x5 : Int} {x6 : Int} {x7 : Int} {d8 : Option AV} {x9 : Int} {w : WS} {r : Nat} {o : Ro} (h : (if x9 ≤ x7 then (if x5 = 0 then K276_234 (some (.inr (.inr (some 0)))) d1 d2 d3 d4 x5 x6 (some (.inl x7)) d8 (some (.inl x9)) w r o else (2 ≤ r) ∧ (∃ (v2 : Int) (s1 : Sg), Dc 221 [(.inr (.inr (some 0))), (.inl 2), (.inl x9)] w.2.2 (.inl (some (.inl v2))) s1 ∧ (2 ≤ (r - 2)) ∧ (∃ (v6 : Int) (s5 : Sg), Dc 221 [(.inr (.inr (some 0))), (.inl 3), (.inl x9)] (wS w s1).2.2 (.inl (some (.inl v6))) s5 ∧ K276_226 d1 d2 d3 d4 (some (.inl x5)) x6 x7 d8 x9 (if v2 = v6 then 1 else 0) (wS (wS w s1) s5) ((r - 2) - 2) o))) else K276_234 (some (.inr (.inr (some 0)))) d1 d2 d3 d4 x5 x6 (some (.inl x7)) d8 (some (.inl x9)) w r o)) : K276_192 d1 d2 d3 d4 x5 x6 x7 d8 x9 w r o := by
  show Lg 276 192 [(some (.inr (.inr (some 0)))), d1, d2, d3, d4, (some (.inl x5)), (some (.inl x6)), (some (.inl x7)), d8, (some (.inl x9))] [] w r o
  refine zq_iload 194 (show zop 276 192 = some (.iload 9, 2) by decide +kernel) rfl rfl ?_
  refine zq_iload 196 (show zop 276 194 = some (.iload 7, 2) by decide +kernel) rfl rfl ?_
  by_cases hc9 : x9 ≤ x7
  · rw [if_pos hc9] at h
    refine zq_icmpF 199 234 (show zop 276 196 = some (.if_icmp .gt 38, 3) by decide +kernel) rfl rfl (decide_eq_false (Int.not_lt.mpr hc9)) ?_
    refine zq_iload 201 (show zop 276 199 = some (.iload 5, 2) by decide +kernel) rfl rfl ?_
    by_cases hc10 : x5 = 0
    · rw [if_pos hc10] at h
      refine zq_ifT 234 (show zop 276 201 = some (.ifCond .eq 33, 3) by decide +kernel) rfl (decide_eq_true hc10) ?_
      exact h
    · rw [if_neg hc10] at h
      refine zq_ifF 204 234 (show zop 276 201 = some (.ifCond .eq 33, 3) by decide +kernel) rfl rfl (decide_eq_false hc10) ?_
      refine zq_aload_n 205 (show zop 276 204 = some (.aload_n 0, 1) by decide +kernel) rfl rfl ?_
      refine zq_iconst 206 (show zop 276 205 = some (.iconst 2, 1) by decide +kernel) rfl rfl ?_
      refine zq_iload 208 (show zop 276 206 = some (.iload 9, 2) by decide +kernel) rfl rfl ?_
      obtain ⟨g4, h⟩ := h
      obtain ⟨v2, s1, hD3, h⟩ := h
      refine zq_vi (v := some (.inl v2)) (σ' := s1) (nj := 3) (j := 221) (c := 2) (t := []) (as := [(.inr (.inr (some 0))), (.inl 2), (.inl x9)]) 211 [(.inl v2)] (show zop 276 208 = some (.invokevirtual 273, 3) by decide +kernel) (by decide +kernel) rfl (by decide +kernel) rfl rfl rfl rfl rfl rfl (by decide +kernel) (by decide +kernel) (clS_0 rfl) hD3 rfl g4 ?_
      refine zq_aload_n 212 (show zop 276 211 = some (.aload_n 0, 1) by decide +kernel) rfl rfl ?_
      refine zq_iconst 213 (show zop 276 212 = some (.iconst 3, 1) by decide +kernel) rfl rfl ?_
      refine zq_iload 215 (show zop 276 213 = some (.iload 9, 2) by decide +kernel) rfl rfl ?_
      obtain ⟨g8, h⟩ := h
      obtain ⟨v6, s5, hD7, h⟩ := h
      refine zq_vi (v := some (.inl v6)) (σ' := s5) (nj := 3) (j := 221) (c := 2) (t := [(.inl v2)]) (as := [(.inr (.inr (some 0))), (.inl 3), (.inl x9)]) 218 [(.inl v6), (.inl v2)] (show zop 276 215 = some (.invokevirtual 273, 3) by decide +kernel) (by decide +kernel) rfl (by decide +kernel) rfl rfl rfl rfl rfl rfl (by decide +kernel) (by decide +kernel) (clS_0 rfl) hD7 rfl g8 ?_
      by_cases hc11 : v2 = v6
      · refine zq_icmpF 221 225 (show zop 276 218 = some (.if_icmp .ne 7, 3) by decide +kernel) rfl rfl (decide_eq_false (fun h9 => h9 hc11)) ?_
        refine zq_iconst 222 (show zop 276 221 = some (.iconst 1, 1) by decide +kernel) rfl rfl ?_
        refine zq_goto 226 (show zop 276 222 = some (.goto 4, 3) by decide +kernel) rfl ?_
        have h9 := h; simp only [if_pos hc11] at h9; exact h9
      · refine zq_icmpT 225 (show zop 276 218 = some (.if_icmp .ne 7, 3) by decide +kernel) rfl (decide_eq_true hc11) ?_
        refine zq_iconst 226 (show zop 276 225 = some (.iconst 0, 1) by decide +kernel) rfl rfl ?_
        have h9 := h; simp only [if_neg hc11] at h9; exact h9
  · rw [if_neg hc9] at h
    refine zq_icmpT 234 (show zop 276 196 = some (.if_icmp .gt 38, 3) by decide +kernel) rfl (decide_eq_true (Int.not_le.mp hc9)) ?_
    exact h
theorem bK276_234 {d0 : Option AV} {d1 : Option AV} {d2 : Option AV} {d3 : Option AV} {d4 : Option AV} {x5 : Int} {x6 : Int} {d7 : Option AV} {d8 : Option AV} {d9 : Option AV} {w : WS} {r : Nat} {o : Ro} (h : (if x5 = 0 then K276_248 d0 d1 d2 d3 d4 (some (.inl x5)) (some (.inl x6)) d7 d8 d9 w r o else (if x6 = 0 then K276_249 d0 d1 d2 d3 d4 (some (.inl x5)) (some (.inl x6)) d7 d8 d9 1 w r o else K276_248 d0 d1 d2 d3 d4 (some (.inl x5)) (some (.inl x6)) d7 d8 d9 w r o))) : K276_234 d0 d1 d2 d3 d4 x5 x6 d7 d8 d9 w r o := by
  show Lg 276 234 [d0, d1, d2, d3, d4, (some (.inl x5)), (some (.inl x6)), d7, d8, d9] [] w r o
  refine zq_iload 236 (show zop 276 234 = some (.iload 5, 2) by decide +kernel) rfl rfl ?_
  by_cases hc1 : x5 = 0
  · rw [if_pos hc1] at h
    refine zq_ifT 248 (show zop 276 236 = some (.ifCond .eq 12, 3) by decide +kernel) rfl (decide_eq_true hc1) ?_
    exact h
  · rw [if_neg hc1] at h
    refine zq_ifF 239 248 (show zop 276 236 = some (.ifCond .eq 12, 3) by decide +kernel) rfl rfl (decide_eq_false hc1) ?_
    refine zq_iload 241 (show zop 276 239 = some (.iload 6, 2) by decide +kernel) rfl rfl ?_
    by_cases hc2 : x6 = 0
    · rw [if_pos hc2] at h
      refine zq_ifF 244 248 (show zop 276 241 = some (.ifCond .ne 7, 3) by decide +kernel) rfl rfl (decide_eq_false (fun h9 => h9 hc2)) ?_
      refine zq_iconst 245 (show zop 276 244 = some (.iconst 1, 1) by decide +kernel) rfl rfl ?_
      refine zq_goto 249 (show zop 276 245 = some (.goto 4, 3) by decide +kernel) rfl ?_
      exact h
    · rw [if_neg hc2] at h
      refine zq_ifT 248 (show zop 276 241 = some (.ifCond .ne 7, 3) by decide +kernel) rfl (decide_eq_true hc2) ?_
      exact h
theorem bK276_226 {d1 : Option AV} {d2 : Option AV} {d3 : Option AV} {d4 : Option AV} {d5 : Option AV} {x6 : Int} {x7 : Int} {d8 : Option AV} {x9 : Int} {y0 : Int} {w : WS} {r : Nat} {o : Ro} (h : (-2147483648 ≤ (x9 + 1) ∧ (x9 + 1) ≤ 2147483647) ∧ K276_192 d1 d2 d3 d4 y0 x6 x7 d8 (x9 + 1) w r o) : K276_226 d1 d2 d3 d4 d5 x6 x7 d8 x9 y0 w r o := by
  show Lg 276 226 [(some (.inr (.inr (some 0)))), d1, d2, d3, d4, d5, (some (.inl x6)), (some (.inl x7)), d8, (some (.inl x9))] [(.inl y0)] w r o
  refine zq_istore 228 [(some (.inr (.inr (some 0)))), d1, d2, d3, d4, (some (.inl y0)), (some (.inl x6)), (some (.inl x7)), d8, (some (.inl x9))] (show zop 276 226 = some (.istore 5, 2) by decide +kernel) rfl rfl rfl ?_
  obtain ⟨g1, h⟩ := h
  refine zq_iinc 231 [(some (.inr (.inr (some 0)))), d1, d2, d3, d4, (some (.inl y0)), (some (.inl x6)), (some (.inl x7)), d8, (some (.inl (x9 + 1)))] (show zop 276 228 = some (.iinc 9 1, 3) by decide +kernel) rfl rfl g1 rfl ?_
  refine zq_goto 192 (show zop 276 231 = some (.goto (-39), 3) by decide +kernel) rfl ?_
  exact h
theorem bK276_248 {d0 : Option AV} {d1 : Option AV} {d2 : Option AV} {d3 : Option AV} {d4 : Option AV} {d5 : Option AV} {d6 : Option AV} {d7 : Option AV} {d8 : Option AV} {d9 : Option AV} {w : WS} {r : Nat} {o : Ro} (h : K276_249 d0 d1 d2 d3 d4 d5 d6 d7 d8 d9 0 w r o) : K276_248 d0 d1 d2 d3 d4 d5 d6 d7 d8 d9 w r o := by
  show Lg 276 248 [d0, d1, d2, d3, d4, d5, d6, d7, d8, d9] [] w r o
  refine zq_iconst 249 (show zop 276 248 = some (.iconst 0, 1) by decide +kernel) rfl rfl ?_
  exact h
theorem bK276_249 {d0 : Option AV} {d1 : Option AV} {d2 : Option AV} {d3 : Option AV} {d4 : Option AV} {d5 : Option AV} {d6 : Option AV} {d7 : Option AV} {d8 : Option AV} {d9 : Option AV} {y0 : Int} {w : WS} {r : Nat} {o : Ro} (h : (y0 = 0 ∨ y0 = 1) ∧ o = (.inl (some (.inl y0)), w)) : K276_249 d0 d1 d2 d3 d4 d5 d6 d7 d8 d9 y0 w r o := by
  show Lg 276 249 [d0, d1, d2, d3, d4, d5, d6, d7, d8, d9] [(.inl y0)] w r o
  obtain ⟨g1, h⟩ := h
  exact (zq_zret (show zop 276 249 = some (.ireturn, 1) by decide +kernel) (by decide +kernel) g1 h)
/-- PatchBenchLaw.chains (LPatchBench;[III)Z -/
theorem lb276 {x2 : Int} {x3 : Int} {w : WS} {o : Ro} (h : (4 ≤ 600) ∧ (∃ (v2 : Int) (w1 : WS), Lx 261 [(.inr (.inr (some 0))), (.inl x2), (.inl x3)] w (.inl (some (.inl v2)), w1) ∧ (if v2 = (-2) then o = (.inl (some (.inl 1)), w1) else (w1.1[0]? = some (0, 12, [])) ∧ (0 ≤ (2 : Int) ∧ (2 : Int) < 12) ∧ (-2147483648 ≤ ((w1.2.1 682 ((2 : Int)).toNat) + 1) ∧ ((w1.2.1 682 ((2 : Int)).toNat) + 1) ≤ 2147483647) ∧ (w1.1[0]? = some (0, 12, [])) ∧ (0 ≤ (2 : Int) ∧ (2 : Int) < 12) ∧ ((wU w1 682 ((2 : Int)).toNat ((w1.2.1 682 ((2 : Int)).toNat) + 1)).1[0]? = some (0, 12, [])) ∧ (0 ≤ (2 : Int) ∧ (2 : Int) < 12) ∧ (-2147483648 ≤ (((wU w1 682 ((2 : Int)).toNat ((w1.2.1 682 ((2 : Int)).toNat) + 1)).2.1 682 ((2 : Int)).toNat) - 1) ∧ (((wU w1 682 ((2 : Int)).toNat ((w1.2.1 682 ((2 : Int)).toNat) + 1)).2.1 682 ((2 : Int)).toNat) - 1) ≤ 2147483647) ∧ K276_39 (some (.inr (.inr (some 682)))) x2 x3 v2 none none none none none (if v2 = (((wU w1 682 ((2 : Int)).toNat ((w1.2.1 682 ((2 : Int)).toNat) + 1)).2.1 682 ((2 : Int)).toNat) - 1) then 1 else 0) (wU w1 682 ((2 : Int)).toNat ((w1.2.1 682 ((2 : Int)).toNat) + 1)) (600 - 4) o))) : Lx 276 [(.inr (.inr (some 0))), (.inr (.inr (some 682))), (.inl x2), (.inl x3)] w o := by
  refine Lx_of (l := 10) (r := 600) (by decide +kernel) (by decide +kernel) ?_
  show Lg 276 0 [(some (.inr (.inr (some 0)))), (some (.inr (.inr (some 682)))), (some (.inl x2)), (some (.inl x3)), none, none, none, none, none, none] [] w 600 o
  refine zq_aload_n 1 (show zop 276 0 = some (.aload_n 0, 1) by decide +kernel) rfl rfl ?_
  refine zq_iload_n 2 (show zop 276 1 = some (.iload_n 2, 1) by decide +kernel) rfl rfl ?_
  refine zq_iload_n 3 (show zop 276 2 = some (.iload_n 3, 1) by decide +kernel) rfl rfl ?_
  obtain ⟨g4, h⟩ := h
  obtain ⟨v2, w1, hD3, h⟩ := h
  refine zq_lx (v := some (.inl v2)) (w' := w1) (nj := 3) (j := 261) (c := 4) (t := []) (as := [(.inr (.inr (some 0))), (.inl x2), (.inl x3)]) 6 [(.inl v2)] (show zop 276 3 = some (.invokestatic 299, 3) by decide +kernel) (by decide +kernel) rfl (by decide +kernel) (by decide +kernel) rfl rfl rfl rfl rfl hD3 rfl g4 ?_
  refine zq_istore 8 [(some (.inr (.inr (some 0)))), (some (.inr (.inr (some 682)))), (some (.inl x2)), (some (.inl x3)), (some (.inl v2)), none, none, none, none, none] (show zop 276 6 = some (.istore 4, 2) by decide +kernel) rfl rfl rfl ?_
  refine zq_iload 10 (show zop 276 8 = some (.iload 4, 2) by decide +kernel) rfl rfl ?_
  refine zq_bipush 12 (show zop 276 10 = some (.bipush (-2), 2) by decide +kernel) rfl (by decide) ?_
  by_cases hc16 : v2 = (-2)
  · rw [if_pos hc16] at h
    refine zq_icmpF 15 17 (show zop 276 12 = some (.if_icmp .ne 5, 3) by decide +kernel) rfl rfl (decide_eq_false (fun h9 => h9 hc16)) ?_
    refine zq_iconst 16 (show zop 276 15 = some (.iconst 1, 1) by decide +kernel) rfl rfl ?_
    exact (zq_zret (show zop 276 16 = some (.ireturn, 1) by decide +kernel) (by decide +kernel) (by decide) h)
  · rw [if_neg hc16] at h
    refine zq_icmpT 17 (show zop 276 12 = some (.if_icmp .ne 5, 3) by decide +kernel) rfl (decide_eq_true hc16) ?_
    refine zq_aload_n 18 (show zop 276 17 = some (.aload_n 1, 1) by decide +kernel) rfl rfl ?_
    refine zq_iconst 19 (show zop 276 18 = some (.iconst 2, 1) by decide +kernel) rfl rfl ?_
    refine zq_dup2 20 (show zop 276 19 = some (.dup2, 1) by decide +kernel) rfl rfl rfl ?_
    obtain ⟨g7, h⟩ := h
    obtain ⟨g5, h⟩ := h
    refine zq_iaload 21 12 (show zop 276 20 = some (.iaload, 1) by decide +kernel) rfl (by decide) g7 g5 ?_
    refine zq_iconst 22 (show zop 276 21 = some (.iconst 1, 1) by decide +kernel) rfl rfl ?_
    obtain ⟨g8, h⟩ := h
    refine zq_iadd 23 (show zop 276 22 = some (.iadd, 1) by decide +kernel) rfl g8 ?_
    obtain ⟨g11, h⟩ := h
    obtain ⟨g9, h⟩ := h
    refine zq_iastore 24 12 (show zop 276 23 = some (.iastore, 1) by decide +kernel) rfl (by decide) g11 g9 ?_
    refine zq_iload 26 (show zop 276 24 = some (.iload 4, 2) by decide +kernel) rfl rfl ?_
    refine zq_aload_n 27 (show zop 276 26 = some (.aload_n 1, 1) by decide +kernel) rfl rfl ?_
    refine zq_iconst 28 (show zop 276 27 = some (.iconst 2, 1) by decide +kernel) rfl rfl ?_
    obtain ⟨g14, h⟩ := h
    obtain ⟨g12, h⟩ := h
    refine zq_iaload 29 12 (show zop 276 28 = some (.iaload, 1) by decide +kernel) rfl (by decide) g14 g12 ?_
    refine zq_iconst 30 (show zop 276 29 = some (.iconst 1, 1) by decide +kernel) rfl rfl ?_
    obtain ⟨g15, h⟩ := h
    refine zq_isub 31 (show zop 276 30 = some (.isub, 1) by decide +kernel) rfl g15 ?_
    by_cases hc17 : v2 = (((wU w1 682 ((2 : Int)).toNat ((w1.2.1 682 ((2 : Int)).toNat) + 1)).2.1 682 ((2 : Int)).toNat) - 1)
    · refine zq_icmpF 34 38 (show zop 276 31 = some (.if_icmp .ne 7, 3) by decide +kernel) rfl rfl (decide_eq_false (fun h9 => h9 hc17)) ?_
      refine zq_iconst 35 (show zop 276 34 = some (.iconst 1, 1) by decide +kernel) rfl rfl ?_
      refine zq_goto 39 (show zop 276 35 = some (.goto 4, 3) by decide +kernel) rfl ?_
      have h9 := h; simp only [if_pos hc17] at h9; exact h9
    · refine zq_icmpT 38 (show zop 276 31 = some (.if_icmp .ne 7, 3) by decide +kernel) rfl (decide_eq_true hc17) ?_
      refine zq_iconst 39 (show zop 276 38 = some (.iconst 0, 1) by decide +kernel) rfl rfl ?_
      have h9 := h; simp only [if_neg hc17] at h9; exact h9
end
