noncomputable section
theorem cp_1 {i : Int} (h : 0 ≤ i ∧ i < 4) : (cap (2 + 2 * i.toNat) : Int) = 16 := by
  have h2 : ∀ m, m < 4 → cap (2 + 2 * m) = 16 := by decide +kernel
  have := h2 i.toNat (by omega)
  omega
theorem el_1 {i : Int} (h : 0 ≤ i ∧ i < 4) : qE 1 i.toNat (2 + 2 * i.toNat) = true ∧ isRow (2 + 2 * i.toNat) = true := by
  have h2 : ∀ m, m < 4 → qE 1 m (2 + 2 * m) = true ∧ isRow (2 + 2 * m) = true := by decide +kernel
  exact h2 _ (by omega)
theorem cp_10 {i : Int} (h : 0 ≤ i ∧ i < 4) : (cap (11 + 2 * i.toNat) : Int) = 40 := by
  have h2 : ∀ m, m < 4 → cap (11 + 2 * m) = 40 := by decide +kernel
  have := h2 i.toNat (by omega)
  omega
theorem el_10 {i : Int} (h : 0 ≤ i ∧ i < 4) : qE 10 i.toNat (11 + 2 * i.toNat) = true ∧ isRow (11 + 2 * i.toNat) = true := by
  have h2 : ∀ m, m < 4 → qE 10 m (11 + 2 * m) = true ∧ isRow (11 + 2 * m) = true := by decide +kernel
  exact h2 _ (by omega)

theorem el_19 {i : Int} (h : 0 ≤ i ∧ i < 24) : qE 19 i.toNat (20 + 13 * i.toNat) = true ∧ isPatch (20 + 13 * i.toNat) = true := by
  have h2 : ∀ m, m < 24 → qE 19 m (20 + 13 * m) = true ∧ isPatch (20 + 13 * m) = true := by decide +kernel
  exact h2 _ (by omega)
theorem cp_615 {i : Int} (h : 0 ≤ i ∧ i < 18) : (cap (616 + 2 * i.toNat) : Int) = 16 := by
  have h2 : ∀ m, m < 18 → cap (616 + 2 * m) = 16 := by decide +kernel
  have := h2 i.toNat (by omega)
  omega
theorem el_615 {i : Int} (h : 0 ≤ i ∧ i < 18) : qE 615 i.toNat (616 + 2 * i.toNat) = true ∧ isRow (616 + 2 * i.toNat) = true := by
  have h2 : ∀ m, m < 18 → qE 615 m (616 + 2 * m) = true ∧ isRow (616 + 2 * m) = true := by decide +kernel
  exact h2 _ (by omega)

theorem el_405 {i : Int} (h : 0 ≤ i ∧ i < 5) : qE 405 i.toNat (406 + 13 * i.toNat) = true ∧ isPatch (406 + 13 * i.toNat) = true := by
  have h2 : ∀ m, m < 5 → qE 405 m (406 + 13 * m) = true ∧ isPatch (406 + 13 * m) = true := by decide +kernel
  exact h2 _ (by omega)
theorem cp_659 {i : Int} (h : 0 ≤ i ∧ i < 10) : (cap (660 + 2 * i.toNat) : Int) = 40 := by
  have h2 : ∀ m, m < 10 → cap (660 + 2 * m) = 40 := by decide +kernel
  have := h2 i.toNat (by omega)
  omega
theorem el_659 {i : Int} (h : 0 ≤ i ∧ i < 10) : qE 659 i.toNat (660 + 2 * i.toNat) = true ∧ isRow (660 + 2 * i.toNat) = true := by
  have h2 : ∀ m, m < 10 → qE 659 m (660 + 2 * m) = true ∧ isRow (660 + 2 * m) = true := by decide +kernel
  exact h2 _ (by omega)
end
