noncomputable section
/-! A call of the class over the ghost's tables is the same over the real ones. -/
def cKb (m : Nat) : Bool := (decide (1 ≤ m) && decide (m ≤ 242)) || decide (m = 443)
/-- the real number of a method of the class -/
def rN (m : Nat) : Nat := if m = 443 then 277 else m
def clsO (o : Nat) : Bool := decide (o < 12) || decide (o = 14)
def rowEqB (m : Nat) : Prop := (M_r m).1.2.2 = (zM_r (rN m)).1.2.2 ∧ (M_r m).2 = (zM_r (rN m)).2 ∧ clsO (M_o m) = true
theorem row_same_1 : ∀ m, 1 ≤ m → m < 31 → rowEqB m := by
  intro m h1 h2
  match m, h1, h2 with
  | 1, _, _ => exact ⟨rfl, rfl, rfl⟩
  | 2, _, _ => exact ⟨rfl, rfl, rfl⟩
  | 3, _, _ => exact ⟨rfl, rfl, rfl⟩
  | 4, _, _ => exact ⟨rfl, rfl, rfl⟩
  | 5, _, _ => exact ⟨rfl, rfl, rfl⟩
  | 6, _, _ => exact ⟨rfl, rfl, rfl⟩
  | 7, _, _ => exact ⟨rfl, rfl, rfl⟩
  | 8, _, _ => exact ⟨rfl, rfl, rfl⟩
  | 9, _, _ => exact ⟨rfl, rfl, rfl⟩
  | 10, _, _ => exact ⟨rfl, rfl, rfl⟩
  | 11, _, _ => exact ⟨rfl, rfl, rfl⟩
  | 12, _, _ => exact ⟨rfl, rfl, rfl⟩
  | 13, _, _ => exact ⟨rfl, rfl, rfl⟩
  | 14, _, _ => exact ⟨rfl, rfl, rfl⟩
  | 15, _, _ => exact ⟨rfl, rfl, rfl⟩
  | 16, _, _ => exact ⟨rfl, rfl, rfl⟩
  | 17, _, _ => exact ⟨rfl, rfl, rfl⟩
  | 18, _, _ => exact ⟨rfl, rfl, rfl⟩
  | 19, _, _ => exact ⟨rfl, rfl, rfl⟩
  | 20, _, _ => exact ⟨rfl, rfl, rfl⟩
  | 21, _, _ => exact ⟨rfl, rfl, rfl⟩
  | 22, _, _ => exact ⟨rfl, rfl, rfl⟩
  | 23, _, _ => exact ⟨rfl, rfl, rfl⟩
  | 24, _, _ => exact ⟨rfl, rfl, rfl⟩
  | 25, _, _ => exact ⟨rfl, rfl, rfl⟩
  | 26, _, _ => exact ⟨rfl, rfl, rfl⟩
  | 27, _, _ => exact ⟨rfl, rfl, rfl⟩
  | 28, _, _ => exact ⟨rfl, rfl, rfl⟩
  | 29, _, _ => exact ⟨rfl, rfl, rfl⟩
  | 30, _, _ => exact ⟨rfl, rfl, rfl⟩
  | k + 31, _, h => exact absurd h (by omega)
  | 0, h, _ => exact absurd h (by decide)
theorem row_same_31 : ∀ m, 31 ≤ m → m < 61 → rowEqB m := by
  intro m h1 h2
  match m, h1, h2 with
  | 31, _, _ => exact ⟨rfl, rfl, rfl⟩
  | 32, _, _ => exact ⟨rfl, rfl, rfl⟩
  | 33, _, _ => exact ⟨rfl, rfl, rfl⟩
  | 34, _, _ => exact ⟨rfl, rfl, rfl⟩
  | 35, _, _ => exact ⟨rfl, rfl, rfl⟩
  | 36, _, _ => exact ⟨rfl, rfl, rfl⟩
  | 37, _, _ => exact ⟨rfl, rfl, rfl⟩
  | 38, _, _ => exact ⟨rfl, rfl, rfl⟩
  | 39, _, _ => exact ⟨rfl, rfl, rfl⟩
  | 40, _, _ => exact ⟨rfl, rfl, rfl⟩
  | 41, _, _ => exact ⟨rfl, rfl, rfl⟩
  | 42, _, _ => exact ⟨rfl, rfl, rfl⟩
  | 43, _, _ => exact ⟨rfl, rfl, rfl⟩
  | 44, _, _ => exact ⟨rfl, rfl, rfl⟩
  | 45, _, _ => exact ⟨rfl, rfl, rfl⟩
  | 46, _, _ => exact ⟨rfl, rfl, rfl⟩
  | 47, _, _ => exact ⟨rfl, rfl, rfl⟩
  | 48, _, _ => exact ⟨rfl, rfl, rfl⟩
  | 49, _, _ => exact ⟨rfl, rfl, rfl⟩
  | 50, _, _ => exact ⟨rfl, rfl, rfl⟩
  | 51, _, _ => exact ⟨rfl, rfl, rfl⟩
  | 52, _, _ => exact ⟨rfl, rfl, rfl⟩
  | 53, _, _ => exact ⟨rfl, rfl, rfl⟩
  | 54, _, _ => exact ⟨rfl, rfl, rfl⟩
  | 55, _, _ => exact ⟨rfl, rfl, rfl⟩
  | 56, _, _ => exact ⟨rfl, rfl, rfl⟩
  | 57, _, _ => exact ⟨rfl, rfl, rfl⟩
  | 58, _, _ => exact ⟨rfl, rfl, rfl⟩
  | 59, _, _ => exact ⟨rfl, rfl, rfl⟩
  | 60, _, _ => exact ⟨rfl, rfl, rfl⟩
  | k + 61, _, h => exact absurd h (by omega)
  | 0, h, _ => exact absurd h (by decide)
  | 1, h, _ => exact absurd h (by decide)
  | 2, h, _ => exact absurd h (by decide)
  | 3, h, _ => exact absurd h (by decide)
  | 4, h, _ => exact absurd h (by decide)
  | 5, h, _ => exact absurd h (by decide)
  | 6, h, _ => exact absurd h (by decide)
  | 7, h, _ => exact absurd h (by decide)
  | 8, h, _ => exact absurd h (by decide)
  | 9, h, _ => exact absurd h (by decide)
  | 10, h, _ => exact absurd h (by decide)
  | 11, h, _ => exact absurd h (by decide)
  | 12, h, _ => exact absurd h (by decide)
  | 13, h, _ => exact absurd h (by decide)
  | 14, h, _ => exact absurd h (by decide)
  | 15, h, _ => exact absurd h (by decide)
  | 16, h, _ => exact absurd h (by decide)
  | 17, h, _ => exact absurd h (by decide)
  | 18, h, _ => exact absurd h (by decide)
  | 19, h, _ => exact absurd h (by decide)
  | 20, h, _ => exact absurd h (by decide)
  | 21, h, _ => exact absurd h (by decide)
  | 22, h, _ => exact absurd h (by decide)
  | 23, h, _ => exact absurd h (by decide)
  | 24, h, _ => exact absurd h (by decide)
  | 25, h, _ => exact absurd h (by decide)
  | 26, h, _ => exact absurd h (by decide)
  | 27, h, _ => exact absurd h (by decide)
  | 28, h, _ => exact absurd h (by decide)
  | 29, h, _ => exact absurd h (by decide)
  | 30, h, _ => exact absurd h (by decide)
theorem row_same_61 : ∀ m, 61 ≤ m → m < 91 → rowEqB m := by
  intro m h1 h2
  match m, h1, h2 with
  | 61, _, _ => exact ⟨rfl, rfl, rfl⟩
  | 62, _, _ => exact ⟨rfl, rfl, rfl⟩
  | 63, _, _ => exact ⟨rfl, rfl, rfl⟩
  | 64, _, _ => exact ⟨rfl, rfl, rfl⟩
  | 65, _, _ => exact ⟨rfl, rfl, rfl⟩
  | 66, _, _ => exact ⟨rfl, rfl, rfl⟩
  | 67, _, _ => exact ⟨rfl, rfl, rfl⟩
  | 68, _, _ => exact ⟨rfl, rfl, rfl⟩
  | 69, _, _ => exact ⟨rfl, rfl, rfl⟩
  | 70, _, _ => exact ⟨rfl, rfl, rfl⟩
  | 71, _, _ => exact ⟨rfl, rfl, rfl⟩
  | 72, _, _ => exact ⟨rfl, rfl, rfl⟩
  | 73, _, _ => exact ⟨rfl, rfl, rfl⟩
  | 74, _, _ => exact ⟨rfl, rfl, rfl⟩
  | 75, _, _ => exact ⟨rfl, rfl, rfl⟩
  | 76, _, _ => exact ⟨rfl, rfl, rfl⟩
  | 77, _, _ => exact ⟨rfl, rfl, rfl⟩
  | 78, _, _ => exact ⟨rfl, rfl, rfl⟩
  | 79, _, _ => exact ⟨rfl, rfl, rfl⟩
  | 80, _, _ => exact ⟨rfl, rfl, rfl⟩
  | 81, _, _ => exact ⟨rfl, rfl, rfl⟩
  | 82, _, _ => exact ⟨rfl, rfl, rfl⟩
  | 83, _, _ => exact ⟨rfl, rfl, rfl⟩
  | 84, _, _ => exact ⟨rfl, rfl, rfl⟩
  | 85, _, _ => exact ⟨rfl, rfl, rfl⟩
  | 86, _, _ => exact ⟨rfl, rfl, rfl⟩
  | 87, _, _ => exact ⟨rfl, rfl, rfl⟩
  | 88, _, _ => exact ⟨rfl, rfl, rfl⟩
  | 89, _, _ => exact ⟨rfl, rfl, rfl⟩
  | 90, _, _ => exact ⟨rfl, rfl, rfl⟩
  | k + 91, _, h => exact absurd h (by omega)
  | 0, h, _ => exact absurd h (by decide)
  | 1, h, _ => exact absurd h (by decide)
  | 2, h, _ => exact absurd h (by decide)
  | 3, h, _ => exact absurd h (by decide)
  | 4, h, _ => exact absurd h (by decide)
  | 5, h, _ => exact absurd h (by decide)
  | 6, h, _ => exact absurd h (by decide)
  | 7, h, _ => exact absurd h (by decide)
  | 8, h, _ => exact absurd h (by decide)
  | 9, h, _ => exact absurd h (by decide)
  | 10, h, _ => exact absurd h (by decide)
  | 11, h, _ => exact absurd h (by decide)
  | 12, h, _ => exact absurd h (by decide)
  | 13, h, _ => exact absurd h (by decide)
  | 14, h, _ => exact absurd h (by decide)
  | 15, h, _ => exact absurd h (by decide)
  | 16, h, _ => exact absurd h (by decide)
  | 17, h, _ => exact absurd h (by decide)
  | 18, h, _ => exact absurd h (by decide)
  | 19, h, _ => exact absurd h (by decide)
  | 20, h, _ => exact absurd h (by decide)
  | 21, h, _ => exact absurd h (by decide)
  | 22, h, _ => exact absurd h (by decide)
  | 23, h, _ => exact absurd h (by decide)
  | 24, h, _ => exact absurd h (by decide)
  | 25, h, _ => exact absurd h (by decide)
  | 26, h, _ => exact absurd h (by decide)
  | 27, h, _ => exact absurd h (by decide)
  | 28, h, _ => exact absurd h (by decide)
  | 29, h, _ => exact absurd h (by decide)
  | 30, h, _ => exact absurd h (by decide)
  | 31, h, _ => exact absurd h (by decide)
  | 32, h, _ => exact absurd h (by decide)
  | 33, h, _ => exact absurd h (by decide)
  | 34, h, _ => exact absurd h (by decide)
  | 35, h, _ => exact absurd h (by decide)
  | 36, h, _ => exact absurd h (by decide)
  | 37, h, _ => exact absurd h (by decide)
  | 38, h, _ => exact absurd h (by decide)
  | 39, h, _ => exact absurd h (by decide)
  | 40, h, _ => exact absurd h (by decide)
  | 41, h, _ => exact absurd h (by decide)
  | 42, h, _ => exact absurd h (by decide)
  | 43, h, _ => exact absurd h (by decide)
  | 44, h, _ => exact absurd h (by decide)
  | 45, h, _ => exact absurd h (by decide)
  | 46, h, _ => exact absurd h (by decide)
  | 47, h, _ => exact absurd h (by decide)
  | 48, h, _ => exact absurd h (by decide)
  | 49, h, _ => exact absurd h (by decide)
  | 50, h, _ => exact absurd h (by decide)
  | 51, h, _ => exact absurd h (by decide)
  | 52, h, _ => exact absurd h (by decide)
  | 53, h, _ => exact absurd h (by decide)
  | 54, h, _ => exact absurd h (by decide)
  | 55, h, _ => exact absurd h (by decide)
  | 56, h, _ => exact absurd h (by decide)
  | 57, h, _ => exact absurd h (by decide)
  | 58, h, _ => exact absurd h (by decide)
  | 59, h, _ => exact absurd h (by decide)
  | 60, h, _ => exact absurd h (by decide)
theorem row_same_91 : ∀ m, 91 ≤ m → m < 121 → rowEqB m := by
  intro m h1 h2
  match m, h1, h2 with
  | 91, _, _ => exact ⟨rfl, rfl, rfl⟩
  | 92, _, _ => exact ⟨rfl, rfl, rfl⟩
  | 93, _, _ => exact ⟨rfl, rfl, rfl⟩
  | 94, _, _ => exact ⟨rfl, rfl, rfl⟩
  | 95, _, _ => exact ⟨rfl, rfl, rfl⟩
  | 96, _, _ => exact ⟨rfl, rfl, rfl⟩
  | 97, _, _ => exact ⟨rfl, rfl, rfl⟩
  | 98, _, _ => exact ⟨rfl, rfl, rfl⟩
  | 99, _, _ => exact ⟨rfl, rfl, rfl⟩
  | 100, _, _ => exact ⟨rfl, rfl, rfl⟩
  | 101, _, _ => exact ⟨rfl, rfl, rfl⟩
  | 102, _, _ => exact ⟨rfl, rfl, rfl⟩
  | 103, _, _ => exact ⟨rfl, rfl, rfl⟩
  | 104, _, _ => exact ⟨rfl, rfl, rfl⟩
  | 105, _, _ => exact ⟨rfl, rfl, rfl⟩
  | 106, _, _ => exact ⟨rfl, rfl, rfl⟩
  | 107, _, _ => exact ⟨rfl, rfl, rfl⟩
  | 108, _, _ => exact ⟨rfl, rfl, rfl⟩
  | 109, _, _ => exact ⟨rfl, rfl, rfl⟩
  | 110, _, _ => exact ⟨rfl, rfl, rfl⟩
  | 111, _, _ => exact ⟨rfl, rfl, rfl⟩
  | 112, _, _ => exact ⟨rfl, rfl, rfl⟩
  | 113, _, _ => exact ⟨rfl, rfl, rfl⟩
  | 114, _, _ => exact ⟨rfl, rfl, rfl⟩
  | 115, _, _ => exact ⟨rfl, rfl, rfl⟩
  | 116, _, _ => exact ⟨rfl, rfl, rfl⟩
  | 117, _, _ => exact ⟨rfl, rfl, rfl⟩
  | 118, _, _ => exact ⟨rfl, rfl, rfl⟩
  | 119, _, _ => exact ⟨rfl, rfl, rfl⟩
  | 120, _, _ => exact ⟨rfl, rfl, rfl⟩
  | k + 121, _, h => exact absurd h (by omega)
  | 0, h, _ => exact absurd h (by decide)
  | 1, h, _ => exact absurd h (by decide)
  | 2, h, _ => exact absurd h (by decide)
  | 3, h, _ => exact absurd h (by decide)
  | 4, h, _ => exact absurd h (by decide)
  | 5, h, _ => exact absurd h (by decide)
  | 6, h, _ => exact absurd h (by decide)
  | 7, h, _ => exact absurd h (by decide)
  | 8, h, _ => exact absurd h (by decide)
  | 9, h, _ => exact absurd h (by decide)
  | 10, h, _ => exact absurd h (by decide)
  | 11, h, _ => exact absurd h (by decide)
  | 12, h, _ => exact absurd h (by decide)
  | 13, h, _ => exact absurd h (by decide)
  | 14, h, _ => exact absurd h (by decide)
  | 15, h, _ => exact absurd h (by decide)
  | 16, h, _ => exact absurd h (by decide)
  | 17, h, _ => exact absurd h (by decide)
  | 18, h, _ => exact absurd h (by decide)
  | 19, h, _ => exact absurd h (by decide)
  | 20, h, _ => exact absurd h (by decide)
  | 21, h, _ => exact absurd h (by decide)
  | 22, h, _ => exact absurd h (by decide)
  | 23, h, _ => exact absurd h (by decide)
  | 24, h, _ => exact absurd h (by decide)
  | 25, h, _ => exact absurd h (by decide)
  | 26, h, _ => exact absurd h (by decide)
  | 27, h, _ => exact absurd h (by decide)
  | 28, h, _ => exact absurd h (by decide)
  | 29, h, _ => exact absurd h (by decide)
  | 30, h, _ => exact absurd h (by decide)
  | 31, h, _ => exact absurd h (by decide)
  | 32, h, _ => exact absurd h (by decide)
  | 33, h, _ => exact absurd h (by decide)
  | 34, h, _ => exact absurd h (by decide)
  | 35, h, _ => exact absurd h (by decide)
  | 36, h, _ => exact absurd h (by decide)
  | 37, h, _ => exact absurd h (by decide)
  | 38, h, _ => exact absurd h (by decide)
  | 39, h, _ => exact absurd h (by decide)
  | 40, h, _ => exact absurd h (by decide)
  | 41, h, _ => exact absurd h (by decide)
  | 42, h, _ => exact absurd h (by decide)
  | 43, h, _ => exact absurd h (by decide)
  | 44, h, _ => exact absurd h (by decide)
  | 45, h, _ => exact absurd h (by decide)
  | 46, h, _ => exact absurd h (by decide)
  | 47, h, _ => exact absurd h (by decide)
  | 48, h, _ => exact absurd h (by decide)
  | 49, h, _ => exact absurd h (by decide)
  | 50, h, _ => exact absurd h (by decide)
  | 51, h, _ => exact absurd h (by decide)
  | 52, h, _ => exact absurd h (by decide)
  | 53, h, _ => exact absurd h (by decide)
  | 54, h, _ => exact absurd h (by decide)
  | 55, h, _ => exact absurd h (by decide)
  | 56, h, _ => exact absurd h (by decide)
  | 57, h, _ => exact absurd h (by decide)
  | 58, h, _ => exact absurd h (by decide)
  | 59, h, _ => exact absurd h (by decide)
  | 60, h, _ => exact absurd h (by decide)
  | 61, h, _ => exact absurd h (by decide)
  | 62, h, _ => exact absurd h (by decide)
  | 63, h, _ => exact absurd h (by decide)
  | 64, h, _ => exact absurd h (by decide)
  | 65, h, _ => exact absurd h (by decide)
  | 66, h, _ => exact absurd h (by decide)
  | 67, h, _ => exact absurd h (by decide)
  | 68, h, _ => exact absurd h (by decide)
  | 69, h, _ => exact absurd h (by decide)
  | 70, h, _ => exact absurd h (by decide)
  | 71, h, _ => exact absurd h (by decide)
  | 72, h, _ => exact absurd h (by decide)
  | 73, h, _ => exact absurd h (by decide)
  | 74, h, _ => exact absurd h (by decide)
  | 75, h, _ => exact absurd h (by decide)
  | 76, h, _ => exact absurd h (by decide)
  | 77, h, _ => exact absurd h (by decide)
  | 78, h, _ => exact absurd h (by decide)
  | 79, h, _ => exact absurd h (by decide)
  | 80, h, _ => exact absurd h (by decide)
  | 81, h, _ => exact absurd h (by decide)
  | 82, h, _ => exact absurd h (by decide)
  | 83, h, _ => exact absurd h (by decide)
  | 84, h, _ => exact absurd h (by decide)
  | 85, h, _ => exact absurd h (by decide)
  | 86, h, _ => exact absurd h (by decide)
  | 87, h, _ => exact absurd h (by decide)
  | 88, h, _ => exact absurd h (by decide)
  | 89, h, _ => exact absurd h (by decide)
  | 90, h, _ => exact absurd h (by decide)
theorem row_same_121 : ∀ m, 121 ≤ m → m < 151 → rowEqB m := by
  intro m h1 h2
  match m, h1, h2 with
  | 121, _, _ => exact ⟨rfl, rfl, rfl⟩
  | 122, _, _ => exact ⟨rfl, rfl, rfl⟩
  | 123, _, _ => exact ⟨rfl, rfl, rfl⟩
  | 124, _, _ => exact ⟨rfl, rfl, rfl⟩
  | 125, _, _ => exact ⟨rfl, rfl, rfl⟩
  | 126, _, _ => exact ⟨rfl, rfl, rfl⟩
  | 127, _, _ => exact ⟨rfl, rfl, rfl⟩
  | 128, _, _ => exact ⟨rfl, rfl, rfl⟩
  | 129, _, _ => exact ⟨rfl, rfl, rfl⟩
  | 130, _, _ => exact ⟨rfl, rfl, rfl⟩
  | 131, _, _ => exact ⟨rfl, rfl, rfl⟩
  | 132, _, _ => exact ⟨rfl, rfl, rfl⟩
  | 133, _, _ => exact ⟨rfl, rfl, rfl⟩
  | 134, _, _ => exact ⟨rfl, rfl, rfl⟩
  | 135, _, _ => exact ⟨rfl, rfl, rfl⟩
  | 136, _, _ => exact ⟨rfl, rfl, rfl⟩
  | 137, _, _ => exact ⟨rfl, rfl, rfl⟩
  | 138, _, _ => exact ⟨rfl, rfl, rfl⟩
  | 139, _, _ => exact ⟨rfl, rfl, rfl⟩
  | 140, _, _ => exact ⟨rfl, rfl, rfl⟩
  | 141, _, _ => exact ⟨rfl, rfl, rfl⟩
  | 142, _, _ => exact ⟨rfl, rfl, rfl⟩
  | 143, _, _ => exact ⟨rfl, rfl, rfl⟩
  | 144, _, _ => exact ⟨rfl, rfl, rfl⟩
  | 145, _, _ => exact ⟨rfl, rfl, rfl⟩
  | 146, _, _ => exact ⟨rfl, rfl, rfl⟩
  | 147, _, _ => exact ⟨rfl, rfl, rfl⟩
  | 148, _, _ => exact ⟨rfl, rfl, rfl⟩
  | 149, _, _ => exact ⟨rfl, rfl, rfl⟩
  | 150, _, _ => exact ⟨rfl, rfl, rfl⟩
  | k + 151, _, h => exact absurd h (by omega)
  | 0, h, _ => exact absurd h (by decide)
  | 1, h, _ => exact absurd h (by decide)
  | 2, h, _ => exact absurd h (by decide)
  | 3, h, _ => exact absurd h (by decide)
  | 4, h, _ => exact absurd h (by decide)
  | 5, h, _ => exact absurd h (by decide)
  | 6, h, _ => exact absurd h (by decide)
  | 7, h, _ => exact absurd h (by decide)
  | 8, h, _ => exact absurd h (by decide)
  | 9, h, _ => exact absurd h (by decide)
  | 10, h, _ => exact absurd h (by decide)
  | 11, h, _ => exact absurd h (by decide)
  | 12, h, _ => exact absurd h (by decide)
  | 13, h, _ => exact absurd h (by decide)
  | 14, h, _ => exact absurd h (by decide)
  | 15, h, _ => exact absurd h (by decide)
  | 16, h, _ => exact absurd h (by decide)
  | 17, h, _ => exact absurd h (by decide)
  | 18, h, _ => exact absurd h (by decide)
  | 19, h, _ => exact absurd h (by decide)
  | 20, h, _ => exact absurd h (by decide)
  | 21, h, _ => exact absurd h (by decide)
  | 22, h, _ => exact absurd h (by decide)
  | 23, h, _ => exact absurd h (by decide)
  | 24, h, _ => exact absurd h (by decide)
  | 25, h, _ => exact absurd h (by decide)
  | 26, h, _ => exact absurd h (by decide)
  | 27, h, _ => exact absurd h (by decide)
  | 28, h, _ => exact absurd h (by decide)
  | 29, h, _ => exact absurd h (by decide)
  | 30, h, _ => exact absurd h (by decide)
  | 31, h, _ => exact absurd h (by decide)
  | 32, h, _ => exact absurd h (by decide)
  | 33, h, _ => exact absurd h (by decide)
  | 34, h, _ => exact absurd h (by decide)
  | 35, h, _ => exact absurd h (by decide)
  | 36, h, _ => exact absurd h (by decide)
  | 37, h, _ => exact absurd h (by decide)
  | 38, h, _ => exact absurd h (by decide)
  | 39, h, _ => exact absurd h (by decide)
  | 40, h, _ => exact absurd h (by decide)
  | 41, h, _ => exact absurd h (by decide)
  | 42, h, _ => exact absurd h (by decide)
  | 43, h, _ => exact absurd h (by decide)
  | 44, h, _ => exact absurd h (by decide)
  | 45, h, _ => exact absurd h (by decide)
  | 46, h, _ => exact absurd h (by decide)
  | 47, h, _ => exact absurd h (by decide)
  | 48, h, _ => exact absurd h (by decide)
  | 49, h, _ => exact absurd h (by decide)
  | 50, h, _ => exact absurd h (by decide)
  | 51, h, _ => exact absurd h (by decide)
  | 52, h, _ => exact absurd h (by decide)
  | 53, h, _ => exact absurd h (by decide)
  | 54, h, _ => exact absurd h (by decide)
  | 55, h, _ => exact absurd h (by decide)
  | 56, h, _ => exact absurd h (by decide)
  | 57, h, _ => exact absurd h (by decide)
  | 58, h, _ => exact absurd h (by decide)
  | 59, h, _ => exact absurd h (by decide)
  | 60, h, _ => exact absurd h (by decide)
  | 61, h, _ => exact absurd h (by decide)
  | 62, h, _ => exact absurd h (by decide)
  | 63, h, _ => exact absurd h (by decide)
  | 64, h, _ => exact absurd h (by decide)
  | 65, h, _ => exact absurd h (by decide)
  | 66, h, _ => exact absurd h (by decide)
  | 67, h, _ => exact absurd h (by decide)
  | 68, h, _ => exact absurd h (by decide)
  | 69, h, _ => exact absurd h (by decide)
  | 70, h, _ => exact absurd h (by decide)
  | 71, h, _ => exact absurd h (by decide)
  | 72, h, _ => exact absurd h (by decide)
  | 73, h, _ => exact absurd h (by decide)
  | 74, h, _ => exact absurd h (by decide)
  | 75, h, _ => exact absurd h (by decide)
  | 76, h, _ => exact absurd h (by decide)
  | 77, h, _ => exact absurd h (by decide)
  | 78, h, _ => exact absurd h (by decide)
  | 79, h, _ => exact absurd h (by decide)
  | 80, h, _ => exact absurd h (by decide)
  | 81, h, _ => exact absurd h (by decide)
  | 82, h, _ => exact absurd h (by decide)
  | 83, h, _ => exact absurd h (by decide)
  | 84, h, _ => exact absurd h (by decide)
  | 85, h, _ => exact absurd h (by decide)
  | 86, h, _ => exact absurd h (by decide)
  | 87, h, _ => exact absurd h (by decide)
  | 88, h, _ => exact absurd h (by decide)
  | 89, h, _ => exact absurd h (by decide)
  | 90, h, _ => exact absurd h (by decide)
  | 91, h, _ => exact absurd h (by decide)
  | 92, h, _ => exact absurd h (by decide)
  | 93, h, _ => exact absurd h (by decide)
  | 94, h, _ => exact absurd h (by decide)
  | 95, h, _ => exact absurd h (by decide)
  | 96, h, _ => exact absurd h (by decide)
  | 97, h, _ => exact absurd h (by decide)
  | 98, h, _ => exact absurd h (by decide)
  | 99, h, _ => exact absurd h (by decide)
  | 100, h, _ => exact absurd h (by decide)
  | 101, h, _ => exact absurd h (by decide)
  | 102, h, _ => exact absurd h (by decide)
  | 103, h, _ => exact absurd h (by decide)
  | 104, h, _ => exact absurd h (by decide)
  | 105, h, _ => exact absurd h (by decide)
  | 106, h, _ => exact absurd h (by decide)
  | 107, h, _ => exact absurd h (by decide)
  | 108, h, _ => exact absurd h (by decide)
  | 109, h, _ => exact absurd h (by decide)
  | 110, h, _ => exact absurd h (by decide)
  | 111, h, _ => exact absurd h (by decide)
  | 112, h, _ => exact absurd h (by decide)
  | 113, h, _ => exact absurd h (by decide)
  | 114, h, _ => exact absurd h (by decide)
  | 115, h, _ => exact absurd h (by decide)
  | 116, h, _ => exact absurd h (by decide)
  | 117, h, _ => exact absurd h (by decide)
  | 118, h, _ => exact absurd h (by decide)
  | 119, h, _ => exact absurd h (by decide)
  | 120, h, _ => exact absurd h (by decide)
theorem row_same_151 : ∀ m, 151 ≤ m → m < 181 → rowEqB m := by
  intro m h1 h2
  match m, h1, h2 with
  | 151, _, _ => exact ⟨rfl, rfl, rfl⟩
  | 152, _, _ => exact ⟨rfl, rfl, rfl⟩
  | 153, _, _ => exact ⟨rfl, rfl, rfl⟩
  | 154, _, _ => exact ⟨rfl, rfl, rfl⟩
  | 155, _, _ => exact ⟨rfl, rfl, rfl⟩
  | 156, _, _ => exact ⟨rfl, rfl, rfl⟩
  | 157, _, _ => exact ⟨rfl, rfl, rfl⟩
  | 158, _, _ => exact ⟨rfl, rfl, rfl⟩
  | 159, _, _ => exact ⟨rfl, rfl, rfl⟩
  | 160, _, _ => exact ⟨rfl, rfl, rfl⟩
  | 161, _, _ => exact ⟨rfl, rfl, rfl⟩
  | 162, _, _ => exact ⟨rfl, rfl, rfl⟩
  | 163, _, _ => exact ⟨rfl, rfl, rfl⟩
  | 164, _, _ => exact ⟨rfl, rfl, rfl⟩
  | 165, _, _ => exact ⟨rfl, rfl, rfl⟩
  | 166, _, _ => exact ⟨rfl, rfl, rfl⟩
  | 167, _, _ => exact ⟨rfl, rfl, rfl⟩
  | 168, _, _ => exact ⟨rfl, rfl, rfl⟩
  | 169, _, _ => exact ⟨rfl, rfl, rfl⟩
  | 170, _, _ => exact ⟨rfl, rfl, rfl⟩
  | 171, _, _ => exact ⟨rfl, rfl, rfl⟩
  | 172, _, _ => exact ⟨rfl, rfl, rfl⟩
  | 173, _, _ => exact ⟨rfl, rfl, rfl⟩
  | 174, _, _ => exact ⟨rfl, rfl, rfl⟩
  | 175, _, _ => exact ⟨rfl, rfl, rfl⟩
  | 176, _, _ => exact ⟨rfl, rfl, rfl⟩
  | 177, _, _ => exact ⟨rfl, rfl, rfl⟩
  | 178, _, _ => exact ⟨rfl, rfl, rfl⟩
  | 179, _, _ => exact ⟨rfl, rfl, rfl⟩
  | 180, _, _ => exact ⟨rfl, rfl, rfl⟩
  | k + 181, _, h => exact absurd h (by omega)
  | 0, h, _ => exact absurd h (by decide)
  | 1, h, _ => exact absurd h (by decide)
  | 2, h, _ => exact absurd h (by decide)
  | 3, h, _ => exact absurd h (by decide)
  | 4, h, _ => exact absurd h (by decide)
  | 5, h, _ => exact absurd h (by decide)
  | 6, h, _ => exact absurd h (by decide)
  | 7, h, _ => exact absurd h (by decide)
  | 8, h, _ => exact absurd h (by decide)
  | 9, h, _ => exact absurd h (by decide)
  | 10, h, _ => exact absurd h (by decide)
  | 11, h, _ => exact absurd h (by decide)
  | 12, h, _ => exact absurd h (by decide)
  | 13, h, _ => exact absurd h (by decide)
  | 14, h, _ => exact absurd h (by decide)
  | 15, h, _ => exact absurd h (by decide)
  | 16, h, _ => exact absurd h (by decide)
  | 17, h, _ => exact absurd h (by decide)
  | 18, h, _ => exact absurd h (by decide)
  | 19, h, _ => exact absurd h (by decide)
  | 20, h, _ => exact absurd h (by decide)
  | 21, h, _ => exact absurd h (by decide)
  | 22, h, _ => exact absurd h (by decide)
  | 23, h, _ => exact absurd h (by decide)
  | 24, h, _ => exact absurd h (by decide)
  | 25, h, _ => exact absurd h (by decide)
  | 26, h, _ => exact absurd h (by decide)
  | 27, h, _ => exact absurd h (by decide)
  | 28, h, _ => exact absurd h (by decide)
  | 29, h, _ => exact absurd h (by decide)
  | 30, h, _ => exact absurd h (by decide)
  | 31, h, _ => exact absurd h (by decide)
  | 32, h, _ => exact absurd h (by decide)
  | 33, h, _ => exact absurd h (by decide)
  | 34, h, _ => exact absurd h (by decide)
  | 35, h, _ => exact absurd h (by decide)
  | 36, h, _ => exact absurd h (by decide)
  | 37, h, _ => exact absurd h (by decide)
  | 38, h, _ => exact absurd h (by decide)
  | 39, h, _ => exact absurd h (by decide)
  | 40, h, _ => exact absurd h (by decide)
  | 41, h, _ => exact absurd h (by decide)
  | 42, h, _ => exact absurd h (by decide)
  | 43, h, _ => exact absurd h (by decide)
  | 44, h, _ => exact absurd h (by decide)
  | 45, h, _ => exact absurd h (by decide)
  | 46, h, _ => exact absurd h (by decide)
  | 47, h, _ => exact absurd h (by decide)
  | 48, h, _ => exact absurd h (by decide)
  | 49, h, _ => exact absurd h (by decide)
  | 50, h, _ => exact absurd h (by decide)
  | 51, h, _ => exact absurd h (by decide)
  | 52, h, _ => exact absurd h (by decide)
  | 53, h, _ => exact absurd h (by decide)
  | 54, h, _ => exact absurd h (by decide)
  | 55, h, _ => exact absurd h (by decide)
  | 56, h, _ => exact absurd h (by decide)
  | 57, h, _ => exact absurd h (by decide)
  | 58, h, _ => exact absurd h (by decide)
  | 59, h, _ => exact absurd h (by decide)
  | 60, h, _ => exact absurd h (by decide)
  | 61, h, _ => exact absurd h (by decide)
  | 62, h, _ => exact absurd h (by decide)
  | 63, h, _ => exact absurd h (by decide)
  | 64, h, _ => exact absurd h (by decide)
  | 65, h, _ => exact absurd h (by decide)
  | 66, h, _ => exact absurd h (by decide)
  | 67, h, _ => exact absurd h (by decide)
  | 68, h, _ => exact absurd h (by decide)
  | 69, h, _ => exact absurd h (by decide)
  | 70, h, _ => exact absurd h (by decide)
  | 71, h, _ => exact absurd h (by decide)
  | 72, h, _ => exact absurd h (by decide)
  | 73, h, _ => exact absurd h (by decide)
  | 74, h, _ => exact absurd h (by decide)
  | 75, h, _ => exact absurd h (by decide)
  | 76, h, _ => exact absurd h (by decide)
  | 77, h, _ => exact absurd h (by decide)
  | 78, h, _ => exact absurd h (by decide)
  | 79, h, _ => exact absurd h (by decide)
  | 80, h, _ => exact absurd h (by decide)
  | 81, h, _ => exact absurd h (by decide)
  | 82, h, _ => exact absurd h (by decide)
  | 83, h, _ => exact absurd h (by decide)
  | 84, h, _ => exact absurd h (by decide)
  | 85, h, _ => exact absurd h (by decide)
  | 86, h, _ => exact absurd h (by decide)
  | 87, h, _ => exact absurd h (by decide)
  | 88, h, _ => exact absurd h (by decide)
  | 89, h, _ => exact absurd h (by decide)
  | 90, h, _ => exact absurd h (by decide)
  | 91, h, _ => exact absurd h (by decide)
  | 92, h, _ => exact absurd h (by decide)
  | 93, h, _ => exact absurd h (by decide)
  | 94, h, _ => exact absurd h (by decide)
  | 95, h, _ => exact absurd h (by decide)
  | 96, h, _ => exact absurd h (by decide)
  | 97, h, _ => exact absurd h (by decide)
  | 98, h, _ => exact absurd h (by decide)
  | 99, h, _ => exact absurd h (by decide)
  | 100, h, _ => exact absurd h (by decide)
  | 101, h, _ => exact absurd h (by decide)
  | 102, h, _ => exact absurd h (by decide)
  | 103, h, _ => exact absurd h (by decide)
  | 104, h, _ => exact absurd h (by decide)
  | 105, h, _ => exact absurd h (by decide)
  | 106, h, _ => exact absurd h (by decide)
  | 107, h, _ => exact absurd h (by decide)
  | 108, h, _ => exact absurd h (by decide)
  | 109, h, _ => exact absurd h (by decide)
  | 110, h, _ => exact absurd h (by decide)
  | 111, h, _ => exact absurd h (by decide)
  | 112, h, _ => exact absurd h (by decide)
  | 113, h, _ => exact absurd h (by decide)
  | 114, h, _ => exact absurd h (by decide)
  | 115, h, _ => exact absurd h (by decide)
  | 116, h, _ => exact absurd h (by decide)
  | 117, h, _ => exact absurd h (by decide)
  | 118, h, _ => exact absurd h (by decide)
  | 119, h, _ => exact absurd h (by decide)
  | 120, h, _ => exact absurd h (by decide)
  | 121, h, _ => exact absurd h (by decide)
  | 122, h, _ => exact absurd h (by decide)
  | 123, h, _ => exact absurd h (by decide)
  | 124, h, _ => exact absurd h (by decide)
  | 125, h, _ => exact absurd h (by decide)
  | 126, h, _ => exact absurd h (by decide)
  | 127, h, _ => exact absurd h (by decide)
  | 128, h, _ => exact absurd h (by decide)
  | 129, h, _ => exact absurd h (by decide)
  | 130, h, _ => exact absurd h (by decide)
  | 131, h, _ => exact absurd h (by decide)
  | 132, h, _ => exact absurd h (by decide)
  | 133, h, _ => exact absurd h (by decide)
  | 134, h, _ => exact absurd h (by decide)
  | 135, h, _ => exact absurd h (by decide)
  | 136, h, _ => exact absurd h (by decide)
  | 137, h, _ => exact absurd h (by decide)
  | 138, h, _ => exact absurd h (by decide)
  | 139, h, _ => exact absurd h (by decide)
  | 140, h, _ => exact absurd h (by decide)
  | 141, h, _ => exact absurd h (by decide)
  | 142, h, _ => exact absurd h (by decide)
  | 143, h, _ => exact absurd h (by decide)
  | 144, h, _ => exact absurd h (by decide)
  | 145, h, _ => exact absurd h (by decide)
  | 146, h, _ => exact absurd h (by decide)
  | 147, h, _ => exact absurd h (by decide)
  | 148, h, _ => exact absurd h (by decide)
  | 149, h, _ => exact absurd h (by decide)
  | 150, h, _ => exact absurd h (by decide)
theorem row_same_181 : ∀ m, 181 ≤ m → m < 211 → rowEqB m := by
  intro m h1 h2
  match m, h1, h2 with
  | 181, _, _ => exact ⟨rfl, rfl, rfl⟩
  | 182, _, _ => exact ⟨rfl, rfl, rfl⟩
  | 183, _, _ => exact ⟨rfl, rfl, rfl⟩
  | 184, _, _ => exact ⟨rfl, rfl, rfl⟩
  | 185, _, _ => exact ⟨rfl, rfl, rfl⟩
  | 186, _, _ => exact ⟨rfl, rfl, rfl⟩
  | 187, _, _ => exact ⟨rfl, rfl, rfl⟩
  | 188, _, _ => exact ⟨rfl, rfl, rfl⟩
  | 189, _, _ => exact ⟨rfl, rfl, rfl⟩
  | 190, _, _ => exact ⟨rfl, rfl, rfl⟩
  | 191, _, _ => exact ⟨rfl, rfl, rfl⟩
  | 192, _, _ => exact ⟨rfl, rfl, rfl⟩
  | 193, _, _ => exact ⟨rfl, rfl, rfl⟩
  | 194, _, _ => exact ⟨rfl, rfl, rfl⟩
  | 195, _, _ => exact ⟨rfl, rfl, rfl⟩
  | 196, _, _ => exact ⟨rfl, rfl, rfl⟩
  | 197, _, _ => exact ⟨rfl, rfl, rfl⟩
  | 198, _, _ => exact ⟨rfl, rfl, rfl⟩
  | 199, _, _ => exact ⟨rfl, rfl, rfl⟩
  | 200, _, _ => exact ⟨rfl, rfl, rfl⟩
  | 201, _, _ => exact ⟨rfl, rfl, rfl⟩
  | 202, _, _ => exact ⟨rfl, rfl, rfl⟩
  | 203, _, _ => exact ⟨rfl, rfl, rfl⟩
  | 204, _, _ => exact ⟨rfl, rfl, rfl⟩
  | 205, _, _ => exact ⟨rfl, rfl, rfl⟩
  | 206, _, _ => exact ⟨rfl, rfl, rfl⟩
  | 207, _, _ => exact ⟨rfl, rfl, rfl⟩
  | 208, _, _ => exact ⟨rfl, rfl, rfl⟩
  | 209, _, _ => exact ⟨rfl, rfl, rfl⟩
  | 210, _, _ => exact ⟨rfl, rfl, rfl⟩
  | k + 211, _, h => exact absurd h (by omega)
  | 0, h, _ => exact absurd h (by decide)
  | 1, h, _ => exact absurd h (by decide)
  | 2, h, _ => exact absurd h (by decide)
  | 3, h, _ => exact absurd h (by decide)
  | 4, h, _ => exact absurd h (by decide)
  | 5, h, _ => exact absurd h (by decide)
  | 6, h, _ => exact absurd h (by decide)
  | 7, h, _ => exact absurd h (by decide)
  | 8, h, _ => exact absurd h (by decide)
  | 9, h, _ => exact absurd h (by decide)
  | 10, h, _ => exact absurd h (by decide)
  | 11, h, _ => exact absurd h (by decide)
  | 12, h, _ => exact absurd h (by decide)
  | 13, h, _ => exact absurd h (by decide)
  | 14, h, _ => exact absurd h (by decide)
  | 15, h, _ => exact absurd h (by decide)
  | 16, h, _ => exact absurd h (by decide)
  | 17, h, _ => exact absurd h (by decide)
  | 18, h, _ => exact absurd h (by decide)
  | 19, h, _ => exact absurd h (by decide)
  | 20, h, _ => exact absurd h (by decide)
  | 21, h, _ => exact absurd h (by decide)
  | 22, h, _ => exact absurd h (by decide)
  | 23, h, _ => exact absurd h (by decide)
  | 24, h, _ => exact absurd h (by decide)
  | 25, h, _ => exact absurd h (by decide)
  | 26, h, _ => exact absurd h (by decide)
  | 27, h, _ => exact absurd h (by decide)
  | 28, h, _ => exact absurd h (by decide)
  | 29, h, _ => exact absurd h (by decide)
  | 30, h, _ => exact absurd h (by decide)
  | 31, h, _ => exact absurd h (by decide)
  | 32, h, _ => exact absurd h (by decide)
  | 33, h, _ => exact absurd h (by decide)
  | 34, h, _ => exact absurd h (by decide)
  | 35, h, _ => exact absurd h (by decide)
  | 36, h, _ => exact absurd h (by decide)
  | 37, h, _ => exact absurd h (by decide)
  | 38, h, _ => exact absurd h (by decide)
  | 39, h, _ => exact absurd h (by decide)
  | 40, h, _ => exact absurd h (by decide)
  | 41, h, _ => exact absurd h (by decide)
  | 42, h, _ => exact absurd h (by decide)
  | 43, h, _ => exact absurd h (by decide)
  | 44, h, _ => exact absurd h (by decide)
  | 45, h, _ => exact absurd h (by decide)
  | 46, h, _ => exact absurd h (by decide)
  | 47, h, _ => exact absurd h (by decide)
  | 48, h, _ => exact absurd h (by decide)
  | 49, h, _ => exact absurd h (by decide)
  | 50, h, _ => exact absurd h (by decide)
  | 51, h, _ => exact absurd h (by decide)
  | 52, h, _ => exact absurd h (by decide)
  | 53, h, _ => exact absurd h (by decide)
  | 54, h, _ => exact absurd h (by decide)
  | 55, h, _ => exact absurd h (by decide)
  | 56, h, _ => exact absurd h (by decide)
  | 57, h, _ => exact absurd h (by decide)
  | 58, h, _ => exact absurd h (by decide)
  | 59, h, _ => exact absurd h (by decide)
  | 60, h, _ => exact absurd h (by decide)
  | 61, h, _ => exact absurd h (by decide)
  | 62, h, _ => exact absurd h (by decide)
  | 63, h, _ => exact absurd h (by decide)
  | 64, h, _ => exact absurd h (by decide)
  | 65, h, _ => exact absurd h (by decide)
  | 66, h, _ => exact absurd h (by decide)
  | 67, h, _ => exact absurd h (by decide)
  | 68, h, _ => exact absurd h (by decide)
  | 69, h, _ => exact absurd h (by decide)
  | 70, h, _ => exact absurd h (by decide)
  | 71, h, _ => exact absurd h (by decide)
  | 72, h, _ => exact absurd h (by decide)
  | 73, h, _ => exact absurd h (by decide)
  | 74, h, _ => exact absurd h (by decide)
  | 75, h, _ => exact absurd h (by decide)
  | 76, h, _ => exact absurd h (by decide)
  | 77, h, _ => exact absurd h (by decide)
  | 78, h, _ => exact absurd h (by decide)
  | 79, h, _ => exact absurd h (by decide)
  | 80, h, _ => exact absurd h (by decide)
  | 81, h, _ => exact absurd h (by decide)
  | 82, h, _ => exact absurd h (by decide)
  | 83, h, _ => exact absurd h (by decide)
  | 84, h, _ => exact absurd h (by decide)
  | 85, h, _ => exact absurd h (by decide)
  | 86, h, _ => exact absurd h (by decide)
  | 87, h, _ => exact absurd h (by decide)
  | 88, h, _ => exact absurd h (by decide)
  | 89, h, _ => exact absurd h (by decide)
  | 90, h, _ => exact absurd h (by decide)
  | 91, h, _ => exact absurd h (by decide)
  | 92, h, _ => exact absurd h (by decide)
  | 93, h, _ => exact absurd h (by decide)
  | 94, h, _ => exact absurd h (by decide)
  | 95, h, _ => exact absurd h (by decide)
  | 96, h, _ => exact absurd h (by decide)
  | 97, h, _ => exact absurd h (by decide)
  | 98, h, _ => exact absurd h (by decide)
  | 99, h, _ => exact absurd h (by decide)
  | 100, h, _ => exact absurd h (by decide)
  | 101, h, _ => exact absurd h (by decide)
  | 102, h, _ => exact absurd h (by decide)
  | 103, h, _ => exact absurd h (by decide)
  | 104, h, _ => exact absurd h (by decide)
  | 105, h, _ => exact absurd h (by decide)
  | 106, h, _ => exact absurd h (by decide)
  | 107, h, _ => exact absurd h (by decide)
  | 108, h, _ => exact absurd h (by decide)
  | 109, h, _ => exact absurd h (by decide)
  | 110, h, _ => exact absurd h (by decide)
  | 111, h, _ => exact absurd h (by decide)
  | 112, h, _ => exact absurd h (by decide)
  | 113, h, _ => exact absurd h (by decide)
  | 114, h, _ => exact absurd h (by decide)
  | 115, h, _ => exact absurd h (by decide)
  | 116, h, _ => exact absurd h (by decide)
  | 117, h, _ => exact absurd h (by decide)
  | 118, h, _ => exact absurd h (by decide)
  | 119, h, _ => exact absurd h (by decide)
  | 120, h, _ => exact absurd h (by decide)
  | 121, h, _ => exact absurd h (by decide)
  | 122, h, _ => exact absurd h (by decide)
  | 123, h, _ => exact absurd h (by decide)
  | 124, h, _ => exact absurd h (by decide)
  | 125, h, _ => exact absurd h (by decide)
  | 126, h, _ => exact absurd h (by decide)
  | 127, h, _ => exact absurd h (by decide)
  | 128, h, _ => exact absurd h (by decide)
  | 129, h, _ => exact absurd h (by decide)
  | 130, h, _ => exact absurd h (by decide)
  | 131, h, _ => exact absurd h (by decide)
  | 132, h, _ => exact absurd h (by decide)
  | 133, h, _ => exact absurd h (by decide)
  | 134, h, _ => exact absurd h (by decide)
  | 135, h, _ => exact absurd h (by decide)
  | 136, h, _ => exact absurd h (by decide)
  | 137, h, _ => exact absurd h (by decide)
  | 138, h, _ => exact absurd h (by decide)
  | 139, h, _ => exact absurd h (by decide)
  | 140, h, _ => exact absurd h (by decide)
  | 141, h, _ => exact absurd h (by decide)
  | 142, h, _ => exact absurd h (by decide)
  | 143, h, _ => exact absurd h (by decide)
  | 144, h, _ => exact absurd h (by decide)
  | 145, h, _ => exact absurd h (by decide)
  | 146, h, _ => exact absurd h (by decide)
  | 147, h, _ => exact absurd h (by decide)
  | 148, h, _ => exact absurd h (by decide)
  | 149, h, _ => exact absurd h (by decide)
  | 150, h, _ => exact absurd h (by decide)
  | 151, h, _ => exact absurd h (by decide)
  | 152, h, _ => exact absurd h (by decide)
  | 153, h, _ => exact absurd h (by decide)
  | 154, h, _ => exact absurd h (by decide)
  | 155, h, _ => exact absurd h (by decide)
  | 156, h, _ => exact absurd h (by decide)
  | 157, h, _ => exact absurd h (by decide)
  | 158, h, _ => exact absurd h (by decide)
  | 159, h, _ => exact absurd h (by decide)
  | 160, h, _ => exact absurd h (by decide)
  | 161, h, _ => exact absurd h (by decide)
  | 162, h, _ => exact absurd h (by decide)
  | 163, h, _ => exact absurd h (by decide)
  | 164, h, _ => exact absurd h (by decide)
  | 165, h, _ => exact absurd h (by decide)
  | 166, h, _ => exact absurd h (by decide)
  | 167, h, _ => exact absurd h (by decide)
  | 168, h, _ => exact absurd h (by decide)
  | 169, h, _ => exact absurd h (by decide)
  | 170, h, _ => exact absurd h (by decide)
  | 171, h, _ => exact absurd h (by decide)
  | 172, h, _ => exact absurd h (by decide)
  | 173, h, _ => exact absurd h (by decide)
  | 174, h, _ => exact absurd h (by decide)
  | 175, h, _ => exact absurd h (by decide)
  | 176, h, _ => exact absurd h (by decide)
  | 177, h, _ => exact absurd h (by decide)
  | 178, h, _ => exact absurd h (by decide)
  | 179, h, _ => exact absurd h (by decide)
  | 180, h, _ => exact absurd h (by decide)
theorem row_same_211 : ∀ m, 211 ≤ m → m < 241 → rowEqB m := by
  intro m h1 h2
  match m, h1, h2 with
  | 211, _, _ => exact ⟨rfl, rfl, rfl⟩
  | 212, _, _ => exact ⟨rfl, rfl, rfl⟩
  | 213, _, _ => exact ⟨rfl, rfl, rfl⟩
  | 214, _, _ => exact ⟨rfl, rfl, rfl⟩
  | 215, _, _ => exact ⟨rfl, rfl, rfl⟩
  | 216, _, _ => exact ⟨rfl, rfl, rfl⟩
  | 217, _, _ => exact ⟨rfl, rfl, rfl⟩
  | 218, _, _ => exact ⟨rfl, rfl, rfl⟩
  | 219, _, _ => exact ⟨rfl, rfl, rfl⟩
  | 220, _, _ => exact ⟨rfl, rfl, rfl⟩
  | 221, _, _ => exact ⟨rfl, rfl, rfl⟩
  | 222, _, _ => exact ⟨rfl, rfl, rfl⟩
  | 223, _, _ => exact ⟨rfl, rfl, rfl⟩
  | 224, _, _ => exact ⟨rfl, rfl, rfl⟩
  | 225, _, _ => exact ⟨rfl, rfl, rfl⟩
  | 226, _, _ => exact ⟨rfl, rfl, rfl⟩
  | 227, _, _ => exact ⟨rfl, rfl, rfl⟩
  | 228, _, _ => exact ⟨rfl, rfl, rfl⟩
  | 229, _, _ => exact ⟨rfl, rfl, rfl⟩
  | 230, _, _ => exact ⟨rfl, rfl, rfl⟩
  | 231, _, _ => exact ⟨rfl, rfl, rfl⟩
  | 232, _, _ => exact ⟨rfl, rfl, rfl⟩
  | 233, _, _ => exact ⟨rfl, rfl, rfl⟩
  | 234, _, _ => exact ⟨rfl, rfl, rfl⟩
  | 235, _, _ => exact ⟨rfl, rfl, rfl⟩
  | 236, _, _ => exact ⟨rfl, rfl, rfl⟩
  | 237, _, _ => exact ⟨rfl, rfl, rfl⟩
  | 238, _, _ => exact ⟨rfl, rfl, rfl⟩
  | 239, _, _ => exact ⟨rfl, rfl, rfl⟩
  | 240, _, _ => exact ⟨rfl, rfl, rfl⟩
  | k + 241, _, h => exact absurd h (by omega)
  | 0, h, _ => exact absurd h (by decide)
  | 1, h, _ => exact absurd h (by decide)
  | 2, h, _ => exact absurd h (by decide)
  | 3, h, _ => exact absurd h (by decide)
  | 4, h, _ => exact absurd h (by decide)
  | 5, h, _ => exact absurd h (by decide)
  | 6, h, _ => exact absurd h (by decide)
  | 7, h, _ => exact absurd h (by decide)
  | 8, h, _ => exact absurd h (by decide)
  | 9, h, _ => exact absurd h (by decide)
  | 10, h, _ => exact absurd h (by decide)
  | 11, h, _ => exact absurd h (by decide)
  | 12, h, _ => exact absurd h (by decide)
  | 13, h, _ => exact absurd h (by decide)
  | 14, h, _ => exact absurd h (by decide)
  | 15, h, _ => exact absurd h (by decide)
  | 16, h, _ => exact absurd h (by decide)
  | 17, h, _ => exact absurd h (by decide)
  | 18, h, _ => exact absurd h (by decide)
  | 19, h, _ => exact absurd h (by decide)
  | 20, h, _ => exact absurd h (by decide)
  | 21, h, _ => exact absurd h (by decide)
  | 22, h, _ => exact absurd h (by decide)
  | 23, h, _ => exact absurd h (by decide)
  | 24, h, _ => exact absurd h (by decide)
  | 25, h, _ => exact absurd h (by decide)
  | 26, h, _ => exact absurd h (by decide)
  | 27, h, _ => exact absurd h (by decide)
  | 28, h, _ => exact absurd h (by decide)
  | 29, h, _ => exact absurd h (by decide)
  | 30, h, _ => exact absurd h (by decide)
  | 31, h, _ => exact absurd h (by decide)
  | 32, h, _ => exact absurd h (by decide)
  | 33, h, _ => exact absurd h (by decide)
  | 34, h, _ => exact absurd h (by decide)
  | 35, h, _ => exact absurd h (by decide)
  | 36, h, _ => exact absurd h (by decide)
  | 37, h, _ => exact absurd h (by decide)
  | 38, h, _ => exact absurd h (by decide)
  | 39, h, _ => exact absurd h (by decide)
  | 40, h, _ => exact absurd h (by decide)
  | 41, h, _ => exact absurd h (by decide)
  | 42, h, _ => exact absurd h (by decide)
  | 43, h, _ => exact absurd h (by decide)
  | 44, h, _ => exact absurd h (by decide)
  | 45, h, _ => exact absurd h (by decide)
  | 46, h, _ => exact absurd h (by decide)
  | 47, h, _ => exact absurd h (by decide)
  | 48, h, _ => exact absurd h (by decide)
  | 49, h, _ => exact absurd h (by decide)
  | 50, h, _ => exact absurd h (by decide)
  | 51, h, _ => exact absurd h (by decide)
  | 52, h, _ => exact absurd h (by decide)
  | 53, h, _ => exact absurd h (by decide)
  | 54, h, _ => exact absurd h (by decide)
  | 55, h, _ => exact absurd h (by decide)
  | 56, h, _ => exact absurd h (by decide)
  | 57, h, _ => exact absurd h (by decide)
  | 58, h, _ => exact absurd h (by decide)
  | 59, h, _ => exact absurd h (by decide)
  | 60, h, _ => exact absurd h (by decide)
  | 61, h, _ => exact absurd h (by decide)
  | 62, h, _ => exact absurd h (by decide)
  | 63, h, _ => exact absurd h (by decide)
  | 64, h, _ => exact absurd h (by decide)
  | 65, h, _ => exact absurd h (by decide)
  | 66, h, _ => exact absurd h (by decide)
  | 67, h, _ => exact absurd h (by decide)
  | 68, h, _ => exact absurd h (by decide)
  | 69, h, _ => exact absurd h (by decide)
  | 70, h, _ => exact absurd h (by decide)
  | 71, h, _ => exact absurd h (by decide)
  | 72, h, _ => exact absurd h (by decide)
  | 73, h, _ => exact absurd h (by decide)
  | 74, h, _ => exact absurd h (by decide)
  | 75, h, _ => exact absurd h (by decide)
  | 76, h, _ => exact absurd h (by decide)
  | 77, h, _ => exact absurd h (by decide)
  | 78, h, _ => exact absurd h (by decide)
  | 79, h, _ => exact absurd h (by decide)
  | 80, h, _ => exact absurd h (by decide)
  | 81, h, _ => exact absurd h (by decide)
  | 82, h, _ => exact absurd h (by decide)
  | 83, h, _ => exact absurd h (by decide)
  | 84, h, _ => exact absurd h (by decide)
  | 85, h, _ => exact absurd h (by decide)
  | 86, h, _ => exact absurd h (by decide)
  | 87, h, _ => exact absurd h (by decide)
  | 88, h, _ => exact absurd h (by decide)
  | 89, h, _ => exact absurd h (by decide)
  | 90, h, _ => exact absurd h (by decide)
  | 91, h, _ => exact absurd h (by decide)
  | 92, h, _ => exact absurd h (by decide)
  | 93, h, _ => exact absurd h (by decide)
  | 94, h, _ => exact absurd h (by decide)
  | 95, h, _ => exact absurd h (by decide)
  | 96, h, _ => exact absurd h (by decide)
  | 97, h, _ => exact absurd h (by decide)
  | 98, h, _ => exact absurd h (by decide)
  | 99, h, _ => exact absurd h (by decide)
  | 100, h, _ => exact absurd h (by decide)
  | 101, h, _ => exact absurd h (by decide)
  | 102, h, _ => exact absurd h (by decide)
  | 103, h, _ => exact absurd h (by decide)
  | 104, h, _ => exact absurd h (by decide)
  | 105, h, _ => exact absurd h (by decide)
  | 106, h, _ => exact absurd h (by decide)
  | 107, h, _ => exact absurd h (by decide)
  | 108, h, _ => exact absurd h (by decide)
  | 109, h, _ => exact absurd h (by decide)
  | 110, h, _ => exact absurd h (by decide)
  | 111, h, _ => exact absurd h (by decide)
  | 112, h, _ => exact absurd h (by decide)
  | 113, h, _ => exact absurd h (by decide)
  | 114, h, _ => exact absurd h (by decide)
  | 115, h, _ => exact absurd h (by decide)
  | 116, h, _ => exact absurd h (by decide)
  | 117, h, _ => exact absurd h (by decide)
  | 118, h, _ => exact absurd h (by decide)
  | 119, h, _ => exact absurd h (by decide)
  | 120, h, _ => exact absurd h (by decide)
  | 121, h, _ => exact absurd h (by decide)
  | 122, h, _ => exact absurd h (by decide)
  | 123, h, _ => exact absurd h (by decide)
  | 124, h, _ => exact absurd h (by decide)
  | 125, h, _ => exact absurd h (by decide)
  | 126, h, _ => exact absurd h (by decide)
  | 127, h, _ => exact absurd h (by decide)
  | 128, h, _ => exact absurd h (by decide)
  | 129, h, _ => exact absurd h (by decide)
  | 130, h, _ => exact absurd h (by decide)
  | 131, h, _ => exact absurd h (by decide)
  | 132, h, _ => exact absurd h (by decide)
  | 133, h, _ => exact absurd h (by decide)
  | 134, h, _ => exact absurd h (by decide)
  | 135, h, _ => exact absurd h (by decide)
  | 136, h, _ => exact absurd h (by decide)
  | 137, h, _ => exact absurd h (by decide)
  | 138, h, _ => exact absurd h (by decide)
  | 139, h, _ => exact absurd h (by decide)
  | 140, h, _ => exact absurd h (by decide)
  | 141, h, _ => exact absurd h (by decide)
  | 142, h, _ => exact absurd h (by decide)
  | 143, h, _ => exact absurd h (by decide)
  | 144, h, _ => exact absurd h (by decide)
  | 145, h, _ => exact absurd h (by decide)
  | 146, h, _ => exact absurd h (by decide)
  | 147, h, _ => exact absurd h (by decide)
  | 148, h, _ => exact absurd h (by decide)
  | 149, h, _ => exact absurd h (by decide)
  | 150, h, _ => exact absurd h (by decide)
  | 151, h, _ => exact absurd h (by decide)
  | 152, h, _ => exact absurd h (by decide)
  | 153, h, _ => exact absurd h (by decide)
  | 154, h, _ => exact absurd h (by decide)
  | 155, h, _ => exact absurd h (by decide)
  | 156, h, _ => exact absurd h (by decide)
  | 157, h, _ => exact absurd h (by decide)
  | 158, h, _ => exact absurd h (by decide)
  | 159, h, _ => exact absurd h (by decide)
  | 160, h, _ => exact absurd h (by decide)
  | 161, h, _ => exact absurd h (by decide)
  | 162, h, _ => exact absurd h (by decide)
  | 163, h, _ => exact absurd h (by decide)
  | 164, h, _ => exact absurd h (by decide)
  | 165, h, _ => exact absurd h (by decide)
  | 166, h, _ => exact absurd h (by decide)
  | 167, h, _ => exact absurd h (by decide)
  | 168, h, _ => exact absurd h (by decide)
  | 169, h, _ => exact absurd h (by decide)
  | 170, h, _ => exact absurd h (by decide)
  | 171, h, _ => exact absurd h (by decide)
  | 172, h, _ => exact absurd h (by decide)
  | 173, h, _ => exact absurd h (by decide)
  | 174, h, _ => exact absurd h (by decide)
  | 175, h, _ => exact absurd h (by decide)
  | 176, h, _ => exact absurd h (by decide)
  | 177, h, _ => exact absurd h (by decide)
  | 178, h, _ => exact absurd h (by decide)
  | 179, h, _ => exact absurd h (by decide)
  | 180, h, _ => exact absurd h (by decide)
  | 181, h, _ => exact absurd h (by decide)
  | 182, h, _ => exact absurd h (by decide)
  | 183, h, _ => exact absurd h (by decide)
  | 184, h, _ => exact absurd h (by decide)
  | 185, h, _ => exact absurd h (by decide)
  | 186, h, _ => exact absurd h (by decide)
  | 187, h, _ => exact absurd h (by decide)
  | 188, h, _ => exact absurd h (by decide)
  | 189, h, _ => exact absurd h (by decide)
  | 190, h, _ => exact absurd h (by decide)
  | 191, h, _ => exact absurd h (by decide)
  | 192, h, _ => exact absurd h (by decide)
  | 193, h, _ => exact absurd h (by decide)
  | 194, h, _ => exact absurd h (by decide)
  | 195, h, _ => exact absurd h (by decide)
  | 196, h, _ => exact absurd h (by decide)
  | 197, h, _ => exact absurd h (by decide)
  | 198, h, _ => exact absurd h (by decide)
  | 199, h, _ => exact absurd h (by decide)
  | 200, h, _ => exact absurd h (by decide)
  | 201, h, _ => exact absurd h (by decide)
  | 202, h, _ => exact absurd h (by decide)
  | 203, h, _ => exact absurd h (by decide)
  | 204, h, _ => exact absurd h (by decide)
  | 205, h, _ => exact absurd h (by decide)
  | 206, h, _ => exact absurd h (by decide)
  | 207, h, _ => exact absurd h (by decide)
  | 208, h, _ => exact absurd h (by decide)
  | 209, h, _ => exact absurd h (by decide)
  | 210, h, _ => exact absurd h (by decide)
theorem row_same_241 : ∀ m, 241 ≤ m → m < 243 → rowEqB m := by
  intro m h1 h2
  match m, h1, h2 with
  | 241, _, _ => exact ⟨rfl, rfl, rfl⟩
  | 242, _, _ => exact ⟨rfl, rfl, rfl⟩
  | k + 243, _, h => exact absurd h (by omega)
  | 0, h, _ => exact absurd h (by decide)
  | 1, h, _ => exact absurd h (by decide)
  | 2, h, _ => exact absurd h (by decide)
  | 3, h, _ => exact absurd h (by decide)
  | 4, h, _ => exact absurd h (by decide)
  | 5, h, _ => exact absurd h (by decide)
  | 6, h, _ => exact absurd h (by decide)
  | 7, h, _ => exact absurd h (by decide)
  | 8, h, _ => exact absurd h (by decide)
  | 9, h, _ => exact absurd h (by decide)
  | 10, h, _ => exact absurd h (by decide)
  | 11, h, _ => exact absurd h (by decide)
  | 12, h, _ => exact absurd h (by decide)
  | 13, h, _ => exact absurd h (by decide)
  | 14, h, _ => exact absurd h (by decide)
  | 15, h, _ => exact absurd h (by decide)
  | 16, h, _ => exact absurd h (by decide)
  | 17, h, _ => exact absurd h (by decide)
  | 18, h, _ => exact absurd h (by decide)
  | 19, h, _ => exact absurd h (by decide)
  | 20, h, _ => exact absurd h (by decide)
  | 21, h, _ => exact absurd h (by decide)
  | 22, h, _ => exact absurd h (by decide)
  | 23, h, _ => exact absurd h (by decide)
  | 24, h, _ => exact absurd h (by decide)
  | 25, h, _ => exact absurd h (by decide)
  | 26, h, _ => exact absurd h (by decide)
  | 27, h, _ => exact absurd h (by decide)
  | 28, h, _ => exact absurd h (by decide)
  | 29, h, _ => exact absurd h (by decide)
  | 30, h, _ => exact absurd h (by decide)
  | 31, h, _ => exact absurd h (by decide)
  | 32, h, _ => exact absurd h (by decide)
  | 33, h, _ => exact absurd h (by decide)
  | 34, h, _ => exact absurd h (by decide)
  | 35, h, _ => exact absurd h (by decide)
  | 36, h, _ => exact absurd h (by decide)
  | 37, h, _ => exact absurd h (by decide)
  | 38, h, _ => exact absurd h (by decide)
  | 39, h, _ => exact absurd h (by decide)
  | 40, h, _ => exact absurd h (by decide)
  | 41, h, _ => exact absurd h (by decide)
  | 42, h, _ => exact absurd h (by decide)
  | 43, h, _ => exact absurd h (by decide)
  | 44, h, _ => exact absurd h (by decide)
  | 45, h, _ => exact absurd h (by decide)
  | 46, h, _ => exact absurd h (by decide)
  | 47, h, _ => exact absurd h (by decide)
  | 48, h, _ => exact absurd h (by decide)
  | 49, h, _ => exact absurd h (by decide)
  | 50, h, _ => exact absurd h (by decide)
  | 51, h, _ => exact absurd h (by decide)
  | 52, h, _ => exact absurd h (by decide)
  | 53, h, _ => exact absurd h (by decide)
  | 54, h, _ => exact absurd h (by decide)
  | 55, h, _ => exact absurd h (by decide)
  | 56, h, _ => exact absurd h (by decide)
  | 57, h, _ => exact absurd h (by decide)
  | 58, h, _ => exact absurd h (by decide)
  | 59, h, _ => exact absurd h (by decide)
  | 60, h, _ => exact absurd h (by decide)
  | 61, h, _ => exact absurd h (by decide)
  | 62, h, _ => exact absurd h (by decide)
  | 63, h, _ => exact absurd h (by decide)
  | 64, h, _ => exact absurd h (by decide)
  | 65, h, _ => exact absurd h (by decide)
  | 66, h, _ => exact absurd h (by decide)
  | 67, h, _ => exact absurd h (by decide)
  | 68, h, _ => exact absurd h (by decide)
  | 69, h, _ => exact absurd h (by decide)
  | 70, h, _ => exact absurd h (by decide)
  | 71, h, _ => exact absurd h (by decide)
  | 72, h, _ => exact absurd h (by decide)
  | 73, h, _ => exact absurd h (by decide)
  | 74, h, _ => exact absurd h (by decide)
  | 75, h, _ => exact absurd h (by decide)
  | 76, h, _ => exact absurd h (by decide)
  | 77, h, _ => exact absurd h (by decide)
  | 78, h, _ => exact absurd h (by decide)
  | 79, h, _ => exact absurd h (by decide)
  | 80, h, _ => exact absurd h (by decide)
  | 81, h, _ => exact absurd h (by decide)
  | 82, h, _ => exact absurd h (by decide)
  | 83, h, _ => exact absurd h (by decide)
  | 84, h, _ => exact absurd h (by decide)
  | 85, h, _ => exact absurd h (by decide)
  | 86, h, _ => exact absurd h (by decide)
  | 87, h, _ => exact absurd h (by decide)
  | 88, h, _ => exact absurd h (by decide)
  | 89, h, _ => exact absurd h (by decide)
  | 90, h, _ => exact absurd h (by decide)
  | 91, h, _ => exact absurd h (by decide)
  | 92, h, _ => exact absurd h (by decide)
  | 93, h, _ => exact absurd h (by decide)
  | 94, h, _ => exact absurd h (by decide)
  | 95, h, _ => exact absurd h (by decide)
  | 96, h, _ => exact absurd h (by decide)
  | 97, h, _ => exact absurd h (by decide)
  | 98, h, _ => exact absurd h (by decide)
  | 99, h, _ => exact absurd h (by decide)
  | 100, h, _ => exact absurd h (by decide)
  | 101, h, _ => exact absurd h (by decide)
  | 102, h, _ => exact absurd h (by decide)
  | 103, h, _ => exact absurd h (by decide)
  | 104, h, _ => exact absurd h (by decide)
  | 105, h, _ => exact absurd h (by decide)
  | 106, h, _ => exact absurd h (by decide)
  | 107, h, _ => exact absurd h (by decide)
  | 108, h, _ => exact absurd h (by decide)
  | 109, h, _ => exact absurd h (by decide)
  | 110, h, _ => exact absurd h (by decide)
  | 111, h, _ => exact absurd h (by decide)
  | 112, h, _ => exact absurd h (by decide)
  | 113, h, _ => exact absurd h (by decide)
  | 114, h, _ => exact absurd h (by decide)
  | 115, h, _ => exact absurd h (by decide)
  | 116, h, _ => exact absurd h (by decide)
  | 117, h, _ => exact absurd h (by decide)
  | 118, h, _ => exact absurd h (by decide)
  | 119, h, _ => exact absurd h (by decide)
  | 120, h, _ => exact absurd h (by decide)
  | 121, h, _ => exact absurd h (by decide)
  | 122, h, _ => exact absurd h (by decide)
  | 123, h, _ => exact absurd h (by decide)
  | 124, h, _ => exact absurd h (by decide)
  | 125, h, _ => exact absurd h (by decide)
  | 126, h, _ => exact absurd h (by decide)
  | 127, h, _ => exact absurd h (by decide)
  | 128, h, _ => exact absurd h (by decide)
  | 129, h, _ => exact absurd h (by decide)
  | 130, h, _ => exact absurd h (by decide)
  | 131, h, _ => exact absurd h (by decide)
  | 132, h, _ => exact absurd h (by decide)
  | 133, h, _ => exact absurd h (by decide)
  | 134, h, _ => exact absurd h (by decide)
  | 135, h, _ => exact absurd h (by decide)
  | 136, h, _ => exact absurd h (by decide)
  | 137, h, _ => exact absurd h (by decide)
  | 138, h, _ => exact absurd h (by decide)
  | 139, h, _ => exact absurd h (by decide)
  | 140, h, _ => exact absurd h (by decide)
  | 141, h, _ => exact absurd h (by decide)
  | 142, h, _ => exact absurd h (by decide)
  | 143, h, _ => exact absurd h (by decide)
  | 144, h, _ => exact absurd h (by decide)
  | 145, h, _ => exact absurd h (by decide)
  | 146, h, _ => exact absurd h (by decide)
  | 147, h, _ => exact absurd h (by decide)
  | 148, h, _ => exact absurd h (by decide)
  | 149, h, _ => exact absurd h (by decide)
  | 150, h, _ => exact absurd h (by decide)
  | 151, h, _ => exact absurd h (by decide)
  | 152, h, _ => exact absurd h (by decide)
  | 153, h, _ => exact absurd h (by decide)
  | 154, h, _ => exact absurd h (by decide)
  | 155, h, _ => exact absurd h (by decide)
  | 156, h, _ => exact absurd h (by decide)
  | 157, h, _ => exact absurd h (by decide)
  | 158, h, _ => exact absurd h (by decide)
  | 159, h, _ => exact absurd h (by decide)
  | 160, h, _ => exact absurd h (by decide)
  | 161, h, _ => exact absurd h (by decide)
  | 162, h, _ => exact absurd h (by decide)
  | 163, h, _ => exact absurd h (by decide)
  | 164, h, _ => exact absurd h (by decide)
  | 165, h, _ => exact absurd h (by decide)
  | 166, h, _ => exact absurd h (by decide)
  | 167, h, _ => exact absurd h (by decide)
  | 168, h, _ => exact absurd h (by decide)
  | 169, h, _ => exact absurd h (by decide)
  | 170, h, _ => exact absurd h (by decide)
  | 171, h, _ => exact absurd h (by decide)
  | 172, h, _ => exact absurd h (by decide)
  | 173, h, _ => exact absurd h (by decide)
  | 174, h, _ => exact absurd h (by decide)
  | 175, h, _ => exact absurd h (by decide)
  | 176, h, _ => exact absurd h (by decide)
  | 177, h, _ => exact absurd h (by decide)
  | 178, h, _ => exact absurd h (by decide)
  | 179, h, _ => exact absurd h (by decide)
  | 180, h, _ => exact absurd h (by decide)
  | 181, h, _ => exact absurd h (by decide)
  | 182, h, _ => exact absurd h (by decide)
  | 183, h, _ => exact absurd h (by decide)
  | 184, h, _ => exact absurd h (by decide)
  | 185, h, _ => exact absurd h (by decide)
  | 186, h, _ => exact absurd h (by decide)
  | 187, h, _ => exact absurd h (by decide)
  | 188, h, _ => exact absurd h (by decide)
  | 189, h, _ => exact absurd h (by decide)
  | 190, h, _ => exact absurd h (by decide)
  | 191, h, _ => exact absurd h (by decide)
  | 192, h, _ => exact absurd h (by decide)
  | 193, h, _ => exact absurd h (by decide)
  | 194, h, _ => exact absurd h (by decide)
  | 195, h, _ => exact absurd h (by decide)
  | 196, h, _ => exact absurd h (by decide)
  | 197, h, _ => exact absurd h (by decide)
  | 198, h, _ => exact absurd h (by decide)
  | 199, h, _ => exact absurd h (by decide)
  | 200, h, _ => exact absurd h (by decide)
  | 201, h, _ => exact absurd h (by decide)
  | 202, h, _ => exact absurd h (by decide)
  | 203, h, _ => exact absurd h (by decide)
  | 204, h, _ => exact absurd h (by decide)
  | 205, h, _ => exact absurd h (by decide)
  | 206, h, _ => exact absurd h (by decide)
  | 207, h, _ => exact absurd h (by decide)
  | 208, h, _ => exact absurd h (by decide)
  | 209, h, _ => exact absurd h (by decide)
  | 210, h, _ => exact absurd h (by decide)
  | 211, h, _ => exact absurd h (by decide)
  | 212, h, _ => exact absurd h (by decide)
  | 213, h, _ => exact absurd h (by decide)
  | 214, h, _ => exact absurd h (by decide)
  | 215, h, _ => exact absurd h (by decide)
  | 216, h, _ => exact absurd h (by decide)
  | 217, h, _ => exact absurd h (by decide)
  | 218, h, _ => exact absurd h (by decide)
  | 219, h, _ => exact absurd h (by decide)
  | 220, h, _ => exact absurd h (by decide)
  | 221, h, _ => exact absurd h (by decide)
  | 222, h, _ => exact absurd h (by decide)
  | 223, h, _ => exact absurd h (by decide)
  | 224, h, _ => exact absurd h (by decide)
  | 225, h, _ => exact absurd h (by decide)
  | 226, h, _ => exact absurd h (by decide)
  | 227, h, _ => exact absurd h (by decide)
  | 228, h, _ => exact absurd h (by decide)
  | 229, h, _ => exact absurd h (by decide)
  | 230, h, _ => exact absurd h (by decide)
  | 231, h, _ => exact absurd h (by decide)
  | 232, h, _ => exact absurd h (by decide)
  | 233, h, _ => exact absurd h (by decide)
  | 234, h, _ => exact absurd h (by decide)
  | 235, h, _ => exact absurd h (by decide)
  | 236, h, _ => exact absurd h (by decide)
  | 237, h, _ => exact absurd h (by decide)
  | 238, h, _ => exact absurd h (by decide)
  | 239, h, _ => exact absurd h (by decide)
  | 240, h, _ => exact absurd h (by decide)
theorem row_same_x241 (m : Nat) (h1 : 241 ≤ m) (h2 : m < 243) : rowEqB m := by
  rcases Nat.lt_or_ge m 243 with h3 | h3
  · exact row_same_241 m h1 h3
  · exact absurd h2 (by omega)
theorem row_same_x211 (m : Nat) (h1 : 211 ≤ m) (h2 : m < 243) : rowEqB m := by
  rcases Nat.lt_or_ge m 241 with h3 | h3
  · exact row_same_211 m h1 h3
  · exact row_same_x241 m h3 h2
theorem row_same_x181 (m : Nat) (h1 : 181 ≤ m) (h2 : m < 243) : rowEqB m := by
  rcases Nat.lt_or_ge m 211 with h3 | h3
  · exact row_same_181 m h1 h3
  · exact row_same_x211 m h3 h2
theorem row_same_x151 (m : Nat) (h1 : 151 ≤ m) (h2 : m < 243) : rowEqB m := by
  rcases Nat.lt_or_ge m 181 with h3 | h3
  · exact row_same_151 m h1 h3
  · exact row_same_x181 m h3 h2
theorem row_same_x121 (m : Nat) (h1 : 121 ≤ m) (h2 : m < 243) : rowEqB m := by
  rcases Nat.lt_or_ge m 151 with h3 | h3
  · exact row_same_121 m h1 h3
  · exact row_same_x151 m h3 h2
theorem row_same_x91 (m : Nat) (h1 : 91 ≤ m) (h2 : m < 243) : rowEqB m := by
  rcases Nat.lt_or_ge m 121 with h3 | h3
  · exact row_same_91 m h1 h3
  · exact row_same_x121 m h3 h2
theorem row_same_x61 (m : Nat) (h1 : 61 ≤ m) (h2 : m < 243) : rowEqB m := by
  rcases Nat.lt_or_ge m 91 with h3 | h3
  · exact row_same_61 m h1 h3
  · exact row_same_x91 m h3 h2
theorem row_same_x31 (m : Nat) (h1 : 31 ≤ m) (h2 : m < 243) : rowEqB m := by
  rcases Nat.lt_or_ge m 61 with h3 | h3
  · exact row_same_31 m h1 h3
  · exact row_same_x61 m h3 h2
theorem row_same {m : Nat} (h : cKb m = true) : rowEqB m := by
  unfold cKb at h
  rw [Bool.or_eq_true, Bool.and_eq_true, decide_eq_true_eq, decide_eq_true_eq, decide_eq_true_eq] at h
  rcases h with ⟨h1, h2⟩ | h
  · rcases Nat.lt_or_ge m 31 with h3 | h3
    · exact row_same_1 m (by omega) h3
    · revert h3; intro h3; exact row_same_x31 m h3 (by omega)
  · subst h; exact ⟨rfl, rfl, rfl⟩
section
variable {m : Nat} (hm : cKb m = true)
theorem e_L (hm : cKb m = true) : M_L m = zM_L (rN m) := congrArg (fun q => q.1) (row_same hm).1
theorem e_ret (hm : cKb m = true) : M_ret m = zM_ret (rN m) := congrArg (fun q => q.2) (row_same hm).1
theorem e_o (hm : cKb m = true) : M_o m = zM_o (rN m) := congrArg (fun q => q.1.1) (row_same hm).2.1
theorem e_n (hm : cKb m = true) : M_n m = zM_n (rN m) := congrArg (fun q => q.1.2.1) (row_same hm).2.1
theorem e_k (hm : cKb m = true) : M_k m = zM_k (rN m) := congrArg (fun q => q.1.2.2.1) (row_same hm).2.1
theorem e_f (hm : cKb m = true) : M_f m = zM_f (rN m) := congrArg (fun q => q.1.2.2.2.1) (row_same hm).2.1
theorem e_lo (hm : cKb m = true) : M_lo m = zM_lo (rN m) := congrArg (fun q => q.1.2.2.2.2) (row_same hm).2.1
theorem e_mc (hm : cKb m = true) : M_mc m = zM_mc (rN m) := congrArg (fun q => q.2.1.1) (row_same hm).2.1
theorem e_ms (hm : cKb m = true) : M_ms m = zM_ms (rN m) := congrArg (fun q => q.2.1.2.1) (row_same hm).2.1
theorem e_hh (hm : cKb m = true) : M_hh m = zM_hh (rN m) := congrArg (fun q => q.2.1.2.2) (row_same hm).2.1
theorem e_c (hm : cKb m = true) : M_c m = zM_c (rN m) := congrArg (fun q => q.2.2) (row_same hm).2.1
theorem e_op (hm : cKb m = true) (pc : Nat) : op m pc = zop (rN m) pc := by unfold op zop; rw [e_c hm]
theorem e_hnd (hm : cKb m = true) (pc E : Nat) : hnd m pc E = zhnd (rN m) pc E := by unfold hnd zhnd; rw [e_hh hm]
end
theorem okg_fl : flT.all (fun q => !clsO q.1.1 || decide (zfl q.1.1 q.1.2 = some q.2.2)) = true := by decide +kernel
theorem okg_cl : clT.all (fun q => !clsO q.1.1 || decide (zcl q.1.1 q.1.2 = some q.2.2)) = true := by decide +kernel
theorem okg_ck : ckT.all (fun q => !clsO q.1.1 || decide (zck q.1.1 q.1.2 = some q.2.2)) = true := by decide +kernel
theorem okg_ml : mlT.all (fun q => !clsO q.1.1 || (decide (1000 ≤ q.2.2 ∧ q.2.2 ≤ 1002) && decide (zml q.1.1 q.1.2 = some q.2.2)) || (cKb q.2.2 && decide (zml q.1.1 q.1.2 = some (rN q.2.2)))) = true := by decide +kernel
theorem okg_ci : clT.all (fun q => !clsO q.1.1 || decide (q.2.2 < 11)) = true := by decide +kernel
theorem g_fl {o i : Nat} {v : _} (ho : clsO o = true) (h : fl o i = some v) : zfl o i = some v := by
  unfold fl at h
  obtain ⟨q, h1, h2⟩ := Option.map_eq_some_iff.mp h
  have h3 := List.all_eq_true.mp okg_fl _ (lkup_mem h1)
  dsimp only at h3
  rw [← h2]
  rw [ho] at h3
  exact of_decide_eq_true h3
theorem g_cl {o i : Nat} {v : _} (ho : clsO o = true) (h : cl o i = some v) : zcl o i = some v ∧ v < 11 := by
  unfold cl at h
  obtain ⟨q, h1, h2⟩ := Option.map_eq_some_iff.mp h
  have h3 := List.all_eq_true.mp okg_cl _ (lkup_mem h1)
  have h4 := List.all_eq_true.mp okg_ci _ (lkup_mem h1)
  dsimp only at h3 h4
  rw [ho] at h3 h4
  rw [← h2]
  exact ⟨of_decide_eq_true h3, of_decide_eq_true h4⟩
theorem g_ck {o i : Nat} {v : _} (ho : clsO o = true) (h : ck o i = some v) : zck o i = some v := by
  unfold ck at h
  obtain ⟨q, h1, h2⟩ := Option.map_eq_some_iff.mp h
  have h3 := List.all_eq_true.mp okg_ck _ (lkup_mem h1)
  dsimp only at h3
  rw [ho] at h3
  rw [← h2]
  exact of_decide_eq_true h3
theorem g_ml {o i j : Nat} (ho : clsO o = true) (h : ml o i = some j) : ((1000 ≤ j ∧ j ≤ 1002) ∧ zml o i = some j) ∨ (cKb j = true ∧ zml o i = some (rN j)) := by
  unfold ml at h
  obtain ⟨q, h1, h2⟩ := Option.map_eq_some_iff.mp h
  have h3 := List.all_eq_true.mp okg_ml _ (lkup_mem h1)
  dsimp only at h3
  rw [ho] at h3
  simp only [Bool.not_true, Bool.false_or, Bool.or_eq_true, Bool.and_eq_true, decide_eq_true_eq] at h3
  rw [← h2]
  exact h3
theorem okg_xt : zxtT.all (fun q => decide (¬ q.1.1 = 443) && decide (¬ q.1.1 = 277)) = true := by decide +kernel
theorem lkup_no {α : Type} {m pc : Nat} : ∀ {l : List ((Nat × Nat) × α)}, (∀ q ∈ l, ¬ q.1.1 = m) → l.lookup (m, pc) = none := by
  intro l
  induction l with
  | nil => intro _; rfl
  | cons a t ih =>
    intro h
    obtain ⟨⟨x, y⟩, z⟩ := a
    rw [List.lookup_cons]
    have h0 : ¬ x = m := h ((x, y), z) List.mem_cons_self
    have h1 : ((m, pc) == (x, y)) = false := by
      rw [beq_eq_false_iff_ne]
      intro e
      exact h0 (congrArg (fun q => q.1) e).symm
    rw [h1]
    exact ih (fun q hq => h q (List.mem_cons_of_mem _ hq))
theorem e_xt {m : Nat} (pc : Nat) : xt m pc = zxt (rN m) pc := by
  unfold rN
  by_cases h : m = 443
  · subst h
    rw [if_pos rfl]
    unfold xt zxt
    rw [lkup_no (fun q hq => by have := List.all_eq_true.mp okg_xt q hq; rw [Bool.and_eq_true] at this; exact of_decide_eq_true this.1), lkup_no (fun q hq => by have := List.all_eq_true.mp okg_xt q hq; rw [Bool.and_eq_true] at this; exact of_decide_eq_true this.2)]
  · rw [if_neg h]; rfl
theorem e_shT {ci : Nat} (h : ci < 11) : shT[ci]? = zshT[ci]? := by
  match ci, h with
  | 0, _ => rfl
  | 1, _ => rfl
  | 2, _ => rfl
  | 3, _ => rfl
  | 4, _ => rfl
  | 5, _ => rfl
  | 6, _ => rfl
  | 7, _ => rfl
  | 8, _ => rfl
  | 9, _ => rfl
  | 10, _ => rfl
  | k + 11, h => exact absurd h (by omega)
theorem e_ci {j : Nat} (hm : cKb j = true) : ownCi (M_o j) = zownCi (zM_o (rN j)) := by
  rw [← e_o hm]
  have h := (row_same hm).2.2
  generalize M_o j = x at h ⊢
  unfold clsO at h
  rw [Bool.or_eq_true, decide_eq_true_eq, decide_eq_true_eq] at h
  match x, h with
  | 0, _ => rfl
  | 1, _ => rfl
  | 2, _ => rfl
  | 3, _ => rfl
  | 4, _ => rfl
  | 5, _ => rfl
  | 6, _ => rfl
  | 7, _ => rfl
  | 8, _ => rfl
  | 9, _ => rfl
  | 10, _ => rfl
  | 11, _ => rfl
  | 14, _ => rfl
  | 12, h => exact absurd h (by omega)
  | 13, h => exact absurd h (by omega)
  | k + 15, h => exact absurd h (by omega)
def isLng (i : Instr) : Bool := match i with
  | .newarray .long => true
  | .laload => true
  | .lastore => true
  | _ => false
def isInv (i : Instr) : Bool := match i with
  | .invokestatic _ | .invokevirtual _ | .invokespecial _ => true
  | _ => false
section
variable {m pc k n : Nat} {i : Instr} {L : List (Option AV)} {st : List AV} {h : HP} {x : Ctl} {c : Nat × List AV × Fr}
theorem sim_op (hm : cKb m = true) (hi : isInv i = false) (hl : isLng i = false) (hs : stepOp m i pc L st h k n = some x) : zstepOp (rN m) i pc L st h k n = some x := by
  have ho : clsO (M_o m) = true := (row_same hm).2.2
  cases i
  case ldc y =>
    unfold stepOp at hs
    unfold zstepOp
    dsimp only at hs ⊢
    rw [← e_o hm]
    cases hq : ck (M_o m) y with
    | none => rw [hq] at hs; cases hs
    | some v => rw [hq] at hs; rw [g_ck ho hq]; exact hs
  case ldc_w y =>
    unfold stepOp at hs
    unfold zstepOp
    dsimp only at hs ⊢
    rw [← e_o hm]
    cases hq : ck (M_o m) y with
    | none => rw [hq] at hs; cases hs
    | some v => rw [hq] at hs; rw [g_ck ho hq]; exact hs
  case getfield y =>
    unfold stepOp at hs
    unfold zstepOp
    dsimp only at hs ⊢
    rw [← e_o hm]
    cases hq : fl (M_o m) y with
    | none => rw [hq] at hs; unfold sGetF at hs; cases hs
    | some v => rw [hq] at hs; rw [g_fl ho hq]; exact hs
  case putfield y =>
    unfold stepOp sPutF at hs
    unfold zstepOp zsPutF
    dsimp only at hs ⊢
    rw [← e_k hm, ← e_ci hm, ← e_o hm]
    cases hq : fl (M_o m) y with
    | none => rw [hq] at hs; cases hs
    | some v => rw [hq] at hs; rw [g_fl ho hq]; exact hs
  case anewarray y =>
    unfold stepOp sNewA at hs
    unfold zstepOp zsNewA
    dsimp only at hs ⊢
    rw [← e_mc hm, ← e_ms hm, ← e_o hm]
    cases hq : cl (M_o m) y with
    | none => rw [hq] at hs; cases hs
    | some v => rw [hq] at hs; rw [(g_cl ho hq).1]; exact hs
  case new y =>
    unfold stepOp sThrow sNew at hs
    unfold zstepOp zsThrow zsNew
    dsimp only at hs ⊢
    rw [← e_xt]
    cases hx : xt m pc with
    | some E => rw [hx] at hs; dsimp only at hs ⊢; rw [← e_f hm, ← e_lo hm, ← e_mc hm, ← e_ms hm, ← e_hh hm]; exact hs
    | none =>
      rw [hx] at hs
      dsimp only at hs ⊢
      rw [← e_mc hm, ← e_ms hm, ← e_o hm]
      cases hq : cl (M_o m) y with
      | none => rw [hq] at hs; cases hs
      | some v => rw [hq] at hs; rw [(g_cl ho hq).1]; dsimp only at hs ⊢; rw [← e_shT (g_cl ho hq).2]; exact hs
  case ireturn =>
    unfold stepOp sIret at hs
    unfold zstepOp zsIret
    dsimp only at hs ⊢
    rw [← e_ret hm]
    exact hs
  case areturn =>
    unfold stepOp sAret at hs
    unfold zstepOp zsAret
    dsimp only at hs ⊢
    rw [← e_ret hm]
    exact hs
  case return_ =>
    unfold stepOp sVret at hs
    unfold zstepOp zsVret
    dsimp only at hs ⊢
    rw [← e_ret hm]
    exact hs
  case newarray a9 =>
    cases a9
    case int => unfold stepOp sNewA at hs; unfold zstepOp zsNewA; dsimp only at hs ⊢; rw [← e_mc hm, ← e_ms hm]; exact hs
    case boolean => unfold stepOp sNewA at hs; unfold zstepOp zsNewA; dsimp only at hs ⊢; rw [← e_mc hm, ← e_ms hm]; exact hs
    case long => cases hl
    all_goals exact hs
  case laload => cases hl
  case lastore => cases hl
  case invokestatic y => cases hi
  case invokevirtual y => cases hi
  case invokespecial y => cases hi
  all_goals exact hs
end
theorem okg_ln : ((277 :: (List.range 243)).all (fun m => m == 0 || (zM_c m).all (fun r => !isLng r.2.1))) = true := by decide +kernel
theorem rN_in {m : Nat} (hm : cKb m = true) : rN m ∈ (277 :: (List.range 243)) ∧ ¬ rN m = 0 := by
  unfold cKb at hm
  rw [Bool.or_eq_true, Bool.and_eq_true, decide_eq_true_eq, decide_eq_true_eq, decide_eq_true_eq] at hm
  unfold rN
  by_cases h : m = 443
  · rw [if_pos h]; exact ⟨List.mem_cons_self, by decide⟩
  · rw [if_neg h]
    exact ⟨List.mem_cons_of_mem _ (List.mem_range.mpr (by omega)), by omega⟩
theorem noLng {m pc len : Nat} {i : Instr} (hm : cKb m = true) (h : op m pc = some (i, len)) : isLng i = false := by
  rw [e_op hm] at h
  obtain ⟨h1, h0⟩ := rN_in hm
  have h2 := List.all_eq_true.mp okg_ln _ h1
  rw [Bool.or_eq_true] at h2
  rcases h2 with h2 | h2
  · exact absurd (eq_of_beq h2) h0
  · have h3 := List.all_eq_true.mp h2 _ (lkup_mem h)
    rw [Bool.not_eq_true'] at h3
    exact h3
section
variable {m pc k n : Nat} {i : Instr} {L : List (Option AV)} {st : List AV} {h : HP} {x : Ctl} {c : Nat × List AV × Fr}
theorem z_nocall (hi : isInv i = false) (hs : zstepOp m i pc L st h k n = some (.inr (.inl c))) : False := by
  cases i
  case invokestatic x => cases hi
  case invokevirtual x => cases hi
  case invokespecial x => cases hi
  case new x =>
    unfold zstepOp at hs
    dsimp only at hs
    split at hs
    · unfold zsThrow at hs
      split at hs <;> cases hs
    · unfold zsNew at hs
      split at hs
      · split at hs
        · split at hs <;> cases hs
        · cases hs
      · cases hs
  case ireturn =>
    unfold zstepOp zsIret at hs
    dsimp only at hs
    split at hs
    · cases hs
    · split at hs <;> cases hs
    · cases hs
  case areturn =>
    unfold zstepOp zsAret at hs
    dsimp only at hs
    split at hs
    · split at hs <;> cases hs
    · cases hs
  case return_ =>
    unfold zstepOp zsVret at hs
    dsimp only at hs
    split at hs <;> cases hs
  case newarray a9 =>
    cases a9 <;> (unfold zstepOp at hs; dsimp only at hs) <;> (try unfold zsNewA at hs) <;> (repeat' split at hs) <;> cases hs
  all_goals (unfold zstepOp at hs; dsimp only at hs)
  all_goals (first | (cases hs; done) | skip)
  all_goals (first | unfold sLdI at hs | unfold sLdA at hs | unfold sStI at hs | unfold sStA at hs | unfold sK at hs | unfold sBin at hs | unfold sDiv at hs | unfold sBit at hs | unfold sIf at hs | unfold sCmp at hs | unfold sNul jmp at hs | unfold sSw jmp at hs | unfold sGetF at hs | unfold zsPutF at hs | unfold sIald at hs | unfold sIast at hs | unfold sLald at hs | unfold sLast at hs | unfold sZald at hs | unfold sZast at hs | unfold sAald at hs | unfold zsAast at hs | unfold sAlen at hs | unfold zsNewA at hs | unfold zsCall at hs | unfold jmp at hs | skip)
  all_goals (try unfold sK at hs)
  all_goals (try dsimp only at hs)
  all_goals (repeat' split at hs)
  all_goals (first | (cases hs; done) | skip)
end
theorem sim_call {m kd x pc k n : Nat} {L : List (Option AV)} {st : List AV} {h : HP} {r : Ctl} (hm : cKb m = true) (hs : sCall m kd (ml (M_o m) x) pc L st h k n = some r) :
    (∃ F, r = .inl F ∧ zsCall (rN m) kd (zml (zM_o (rN m)) x) pc L st h k n = some (.inl F)) ∨ (∃ j as F, r = .inr (.inl (j, as, F)) ∧ cKb j = true ∧ zsCall (rN m) kd (zml (zM_o (rN m)) x) pc L st h k n = some (.inr (.inl (rN j, as, F)))) := by
  have ho : clsO (M_o m) = true := (row_same hm).2.2
  rw [← e_o hm]
  cases hq : ml (M_o m) x with
  | none => rw [hq] at hs; unfold sCall at hs; cases hs
  | some j =>
    rw [hq] at hs
    rcases g_ml ho hq with ⟨g1, g2⟩ | ⟨g1, g2⟩
    · left
      rw [g2]
      unfold sCall at hs
      unfold zsCall
      dsimp only at hs ⊢
      rw [← e_f hm, ← e_lo hm]
      split at hs
      · rename_i e1
        rw [if_pos e1]
        split at hs
        · split at hs
          · rename_i e2
            cases hs
            exact ⟨_, rfl, by dsimp only; rw [if_pos e2]⟩
          · cases hs
        · cases hs
      · rename_i e1
        rw [if_neg e1]
        split at hs
        · rename_i e2
          rw [if_pos e2]
          split at hs
          · split at hs
            · rename_i e3
              cases hs
              exact ⟨_, rfl, by dsimp only; rw [if_pos e3]⟩
            · cases hs
          · cases hs
        · rename_i e2
          rw [if_neg e2]
          split at hs
          · rename_i e3
            rw [if_pos e3]
            split at hs
            · split at hs
              · rename_i e4
                cases hs
                exact ⟨_, rfl, by dsimp only; rw [if_pos e4]⟩
              · cases hs
            · cases hs
          · rename_i e3
            omega
    · right
      have hj : ¬ j = 1000 ∧ ¬ j = 1001 ∧ ¬ j = 1002 := by
        unfold cKb at g1
        rw [Bool.or_eq_true, Bool.and_eq_true, decide_eq_true_eq, decide_eq_true_eq, decide_eq_true_eq] at g1
        omega
      have hr : ¬ rN j = 1000 ∧ ¬ rN j = 1001 ∧ ¬ rN j = 1002 := by
        unfold rN
        split <;> omega
      rw [g2]
      unfold sCall at hs
      unfold zsCall
      dsimp only at hs ⊢
      rw [if_neg hj.1, if_neg hj.2.1, if_neg hj.2.2] at hs
      rw [if_neg hr.1, if_neg hr.2.1, if_neg hr.2.2, ← e_f hm, ← e_lo hm, ← e_mc hm, ← e_ms hm, ← e_n g1, ← e_k g1, ← e_f g1, ← e_lo g1, ← e_mc g1, ← e_ms g1, ← e_L g1, ← e_ci g1]
      split at hs
      · rename_i e1
        rw [if_pos e1]
        generalize (st.take (M_n j)).reverse = as at hs ⊢
        match kd, as, hs with
        | 1, .inr (.inr (some a)) :: as', hs =>
          have hs2 : (match h.1[a]? with
            | some (kr, _, _) => if ownCi (M_o j) + 10 = kr then some (.inr (.inl (j, .inr (.inr (some a)) :: as', (pc, L, st.drop (M_n j), h, k + M_mc j, n + M_ms j)))) else none
            | none => none) = some r := hs
          cases hq2 : h.1[a]? with
          | none => rw [hq2] at hs2; cases hs2
          | some s9 =>
            obtain ⟨kr, u1, u2⟩ := s9
            rw [hq2] at hs2
            dsimp only at hs2
            by_cases e3 : ownCi (M_o j) + 10 = kr
            · rw [if_pos e3] at hs2
              cases hs2
              refine ⟨j, _, _, rfl, g1, ?_⟩
              show ((match h.1[a]? with
                | some (kr, _, _) => if ownCi (M_o j) + 10 = kr then some (.inr (.inl (rN j, .inr (.inr (some a)) :: as', (pc, L, st.drop (M_n j), h, k + M_mc j, n + M_ms j)))) else none
                | none => none) : Option Ctl) = some (.inr (.inl (rN j, .inr (.inr (some a)) :: as', (pc, L, st.drop (M_n j), h, k + M_mc j, n + M_ms j))))
              rw [hq2]
              dsimp only
              rw [if_pos e3]
            · rw [if_neg e3] at hs2; cases hs2
        | 0, as', hs =>
          try dsimp only at hs ⊢
          cases hs
          exact ⟨j, _, _, rfl, g1, rfl⟩
        | 2, .inr (.inr (some a)) :: as', hs =>
          try dsimp only at hs ⊢
          cases hs
          exact ⟨j, _, _, rfl, g1, rfl⟩
        | 1, [], hs => cases hs
        | 2, [], hs => cases hs
        | 1, .inl _ :: _, hs => cases hs
        | 2, .inl _ :: _, hs => cases hs
        | 1, .inr (.inl _) :: _, hs => cases hs
        | 2, .inr (.inl _) :: _, hs => cases hs
        | 1, .inr (.inr none) :: _, hs => cases hs
        | 2, .inr (.inr none) :: _, hs => cases hs
        | q + 3, _, hs => cases hs
      · cases hs
theorem e_entry {j : Nat} (hj : cKb j = true) (as : List AV) (h : HP) : entryF j as h = zentryF (rN j) as h := by
  unfold entryF zentryF
  rw [e_L hj]
theorem e_thr {m : Nat} (hm : cKb m = true) (pc E : Nat) (h : HP) : thrOf m pc E h = zthrOf (rN m) pc E h := by
  unfold thrOf zthrOf
  rw [e_hnd hm, e_hh hm]
  rfl
/-- what the ghost says of a class method, the real interpreter says -/
theorem sim_run : ∀ (nf m : Nat) (F : Fr) (o : Out), cKb m = true → run nf m F = some o → zrun nf (rN m) F = some o := by
  intro nf
  induction nf with
  | zero => intro m F o _ h; cases h
  | succ nf ih =>
    intro m F o hm h
    unfold run at h
    unfold zrun
    have hz : zstep (rN m) F = (match op m F.1 with
      | none => none
      | some (i, _) => zstepOp (rN m) i F.1 F.2.1 F.2.2.1 F.2.2.2.1 F.2.2.2.2.1 F.2.2.2.2.2) := by unfold zstep; rw [← e_op hm]; rfl
    rw [hz]
    unfold step at h
    cases ho : op m F.1 with
    | none => rw [ho] at h; cases h
    | some q =>
      obtain ⟨i, len⟩ := q
      rw [ho] at h
      dsimp only at h ⊢
      cases hs : stepOp m i F.1 F.2.1 F.2.2.1 F.2.2.2.1 F.2.2.2.2.1 F.2.2.2.2.2 with
      | none => rw [hs] at h; cases h
      | some r =>
        rw [hs] at h
        have fin : ∀ j as F', cKb j = true → (match run nf j (entryF j as F'.2.2.2.1) with
          | none => none
          | some (.inl v, h) => run nf m (pushO v F' h)
          | some (.inr E, h) => thrOf m F.1 E h) = some o → (match zrun nf (rN j) (zentryF (rN j) as F'.2.2.2.1) with
          | none => none
          | some (.inl v, h) => zrun nf (rN m) (pushO v F' h)
          | some (.inr E, h) => zthrOf (rN m) F.1 E h) = some o := by
          intro j as F' hj h9
          rw [← e_entry hj]
          cases hc : run nf j (entryF j as F'.2.2.2.1) with
          | none => rw [hc] at h9; cases h9
          | some w =>
            rw [hc] at h9
            rw [ih j _ _ hj hc]
            obtain ⟨w1, w2⟩ := w
            cases w1 with
            | inl v => exact ih m _ _ hm h9
            | inr E => dsimp only at h9 ⊢; rw [← e_thr hm]; exact h9
        have sk : ∀ kd x pc, sCall m kd (ml (M_o m) x) pc F.2.1 F.2.2.1 F.2.2.2.1 F.2.2.2.2.1 F.2.2.2.2.2 = some r → (match zsCall (rN m) kd (zml (zM_o (rN m)) x) pc F.2.1 F.2.2.1 F.2.2.2.1 F.2.2.2.2.1 F.2.2.2.2.2 with
          | none => none
          | some (.inl F') => zrun nf (rN m) F'
          | some (.inr (.inr o)) => some o
          | some (.inr (.inl (j, as, F'))) => match zrun nf j (zentryF j as F'.2.2.2.1) with
              | none => none
              | some (.inl v, h) => zrun nf (rN m) (pushO v F' h)
              | some (.inr E, h) => zthrOf (rN m) F.1 E h) = some o := by
          intro kd x pc h9
          rcases sim_call hm h9 with ⟨F', e1, e2⟩ | ⟨j, as, F', e1, hj, e2⟩
          · subst e1
            rw [e2]
            exact ih m _ _ hm h
          · subst e1
            rw [e2]
            exact fin j as F' hj h
        by_cases hi : isInv i = false
        · have hz2 := sim_op hm hi (noLng hm ho) hs
          rw [hz2]
          rcases r with F' | ⟨j, as, F'⟩ | o'
          · exact ih m _ _ hm h
          · exact (z_nocall hi hz2).elim
          · exact h
        · cases i
          case invokestatic x => exact sk 0 x _ hs
          case invokevirtual x => exact sk 1 x _ hs
          case invokespecial x => exact sk 2 x _ hs
          all_goals exact absurd rfl hi

end
