/-! The law: its draws and lines; a text is written. -/
noncomputable section
theorem iAnd_nn (x : Int) : 0 ≤ iAnd x 2147483647 ∧ iAnd x 2147483647 ≤ 2147483647 := by
  unfold iAnd bit32
  have e : (Int32.ofInt x &&& Int32.ofInt 2147483647).toInt = ((Int32.ofInt x).toBitVec &&& (Int32.ofInt 2147483647).toBitVec).toInt := rfl
  rw [e]
  have hm : ((Int32.ofInt x).toBitVec &&& (Int32.ofInt 2147483647).toBitVec).msb = false := by
    rw [BitVec.msb_and]
    have : (Int32.ofInt 2147483647).toBitVec.msb = false := by decide
    rw [this, Bool.and_false]
  rw [BitVec.toInt_eq_msb_cond, if_neg (by rw [hm]; decide)]
  have h2 := ((Int32.ofInt x).toBitVec &&& (Int32.ofInt 2147483647).toBitVec).isLt
  have h3 : 2 * ((Int32.ofInt x).toBitVec &&& (Int32.ofInt 2147483647).toBitVec).toNat < 2 ^ 32 := by
    have := BitVec.msb_eq_false_iff_two_mul_lt.mp hm
    exact this
  omega
theorem m243 {w : WS} {k : Nat} (hk : k ≤ 300) : ∃ v : Nat, (v : Int) ≤ 2147483647 ∧ Lx 243 [vA SCR, vI k] w (rO v w) := by
  by_cases h : (k : Int) < w.2.1 (SCR + 1) 0
  · obtain ⟨h0, h1⟩ := iAnd_nn (w.2.1 SCR ((k : Int)).toNat)
    obtain ⟨v, hv⟩ := Int.eq_ofNat_of_zero_le h0
    refine ⟨v, by omega, lb243 ⟨fun _ => by omega, fun g => absurd h g, fun g => absurd h g, ?_⟩⟩
    rw [if_pos h, hv]
    exact bK243_24 rfl
  · have e : Int.tmod (104729 * ((k : Int) + 2)) 65521 = (((104729 * (k + 2)) % 65521 : Nat) : Int) := rfl
    refine ⟨(104729 * (k + 2)) % 65521, by omega, lb243 ⟨fun g => absurd g h, fun _ => by omega, fun _ => by omega, ?_⟩⟩
    rw [if_neg h, e]
    exact bK243_24 rfl
/-- the line that the law makes of a number -/
def lnW (q : Nat) : Int := if q < 3 then (q : Int) + 1 else if q = 3 then 12 else if q = 4 then 21 else if q = 5 then 123 else if q = 6 then 1234 else 312
def lnF (a : Nat) : Int := if a % 9 = 8 then 0 else 10000 * (if a / 9 % 3 = 2 then 1 else 0) + lnW (a % 9)
theorem lnF_ok (a : Nat) : isLn (lnF a) = true ∧ 0 ≤ lnF a := by
  have key : ∀ q, q < 9 → ∀ i, i < 3 → isLn (if q = 8 then 0 else 10000 * (if i = 2 then 1 else 0) + lnW q) = true := by decide +kernel
  have h := key (a % 9) (Nat.mod_lt _ (by decide)) (a / 9 % 3) (Nat.mod_lt _ (by decide))
  exact ⟨h, isLn_nn h⟩
theorem m244 {w : WS} {a : Nat} : Lx 244 [vI a] w (rO (lnF a) w) := by
  have e1 : Int.tmod (a : Int) 9 = ((a % 9 : Nat) : Int) := rfl
  have e2 : Int.tmod (Int.tdiv (a : Int) 9) 3 = ((a / 9 % 3 : Nat) : Int) := rfl
  have hq : a % 9 < 9 := Nat.mod_lt _ (by decide)
  have hW : (if ((a % 9 : Nat) : Int) < 3 then ((a % 9 : Nat) : Int) + 1 else (if ((a % 9 : Nat) : Int) = 3 then 12 else (if ((a % 9 : Nat) : Int) = 4 then 21 else (if ((a % 9 : Nat) : Int) = 5 then 123 else (if ((a % 9 : Nat) : Int) = 6 then 1234 else 312))))) = lnW (a % 9) := by
    unfold lnW
    by_cases h3 : a % 9 < 3
    · rw [if_pos (by omega), if_pos h3]
    · rw [if_neg (by omega), if_neg h3]
      by_cases h4 : a % 9 = 3
      · rw [if_pos (by omega), if_pos h4]
      · rw [if_neg (by omega), if_neg h4]
        by_cases h5 : a % 9 = 4
        · rw [if_pos (by omega), if_pos h5]
        · rw [if_neg (by omega), if_neg h5]
          by_cases h6 : a % 9 = 5
          · rw [if_pos (by omega), if_pos h6]
          · rw [if_neg (by omega), if_neg h6]
            by_cases h7 : a % 9 = 6
            · rw [if_pos (by omega), if_pos h7]
            · rw [if_neg (by omega), if_neg h7]
  have hb : ∀ q, q < 9 → -1 ≤ lnW q ∧ lnW q ≤ 2000 := by decide +kernel
  have hbq := hb (a % 9) hq
  refine lb244 ⟨fun _ => by rw [e1]; omega, ?_⟩
  rw [e1, e2, hW]
  refine bK244_68 ?_
  unfold lnF
  by_cases h8 : a % 9 = 8
  · rw [if_pos (by omega), if_pos h8]
    exact bK244_95 rfl
  · rw [if_neg (by omega), if_neg h8]
    by_cases h2 : a / 9 % 3 = 2
    · rw [if_pos (by omega), if_pos h2]
      exact bK244_92 ⟨by decide, by omega, bK244_95 rfl⟩
    · rw [if_neg (by omega), if_neg h2]
      exact bK244_92 ⟨by decide, by omega, bK244_95 rfl⟩
end
