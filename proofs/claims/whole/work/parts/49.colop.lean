/-! chips: a column more a multiple of another one, and what becomes of minors -/
section CM
variable {E E2 : Nat → Nat → Int64} {x y : Nat → Int64} {v : Int64} {l : Nat}
theorem cm_0_1 (he : ∀ j, j < 4 → j ≠ 1 → E2 l j = E l j) (hg : E2 l 1 = E l 1 + v * E l 0) {C : Nat} (hC : C < 16) (h : ∀ S, S < 16 → pop4 S + 1 = pop4 C → y S = if S / 2 ^ 1 % 2 = 1 ∧ S / 2 ^ 0 % 2 = 0 then x S + x (S ^^^ 2 ^ 0 ^^^ 2 ^ 1) * v else x S) : mz E2 (fun j => y (C ^^^ 2 ^ j)) l C 4 0 1 = if C / 2 ^ 1 % 2 = 1 ∧ C / 2 ^ 0 % 2 = 0 then mz E (fun j => x (C ^^^ 2 ^ j)) l C 4 0 1 + mz E (fun j => x (C ^^^ 2 ^ 0 ^^^ 2 ^ 1 ^^^ 2 ^ j)) l (C ^^^ 2 ^ 0 ^^^ 2 ^ 1) 4 0 1 * v else mz E (fun j => x (C ^^^ 2 ^ j)) l C 4 0 1 := by
  have e0 := he 0 (by decide) (by decide)
  have e2 := he 2 (by decide) (by decide)
  have e3 := he 3 (by decide) (by decide)
  rcases (show C = 0 ∨ C = 1 ∨ C = 2 ∨ C = 3 ∨ C = 4 ∨ C = 5 ∨ C = 6 ∨ C = 7 ∨ C = 8 ∨ C = 9 ∨ C = 10 ∨ C = 11 ∨ C = 12 ∨ C = 13 ∨ C = 14 ∨ C = 15 by omega) with rfl | rfl | rfl | rfl | rfl | rfl | rfl | rfl | rfl | rfl | rfl | rfl | rfl | rfl | rfl | rfl
  · simp [mz]
    try grind
  · have a0 := h 0 (by decide) (by decide)
    simp at a0
    simp [mz]
    try grind
  · have a0 := h 0 (by decide) (by decide)
    simp at a0
    simp [mz]
    try grind
  · have a0 := h 2 (by decide) (by decide)
    have a1 := h 1 (by decide) (by decide)
    simp at a0 a1
    simp [mz]
    try grind
  · have a0 := h 0 (by decide) (by decide)
    simp at a0
    simp [mz]
    try grind
  · have a0 := h 4 (by decide) (by decide)
    have a1 := h 1 (by decide) (by decide)
    simp at a0 a1
    simp [mz]
    try grind
  · have a0 := h 4 (by decide) (by decide)
    have a1 := h 2 (by decide) (by decide)
    simp at a0 a1
    simp [mz]
    try grind
  · have a0 := h 6 (by decide) (by decide)
    have a1 := h 5 (by decide) (by decide)
    have a2 := h 3 (by decide) (by decide)
    simp at a0 a1 a2
    simp [mz]
    try grind
  · have a0 := h 0 (by decide) (by decide)
    simp at a0
    simp [mz]
    try grind
  · have a0 := h 8 (by decide) (by decide)
    have a1 := h 1 (by decide) (by decide)
    simp at a0 a1
    simp [mz]
    try grind
  · have a0 := h 8 (by decide) (by decide)
    have a1 := h 2 (by decide) (by decide)
    simp at a0 a1
    simp [mz]
    try grind
  · have a0 := h 10 (by decide) (by decide)
    have a1 := h 9 (by decide) (by decide)
    have a2 := h 3 (by decide) (by decide)
    simp at a0 a1 a2
    simp [mz]
    try grind
  · have a0 := h 8 (by decide) (by decide)
    have a1 := h 4 (by decide) (by decide)
    simp at a0 a1
    simp [mz]
    try grind
  · have a0 := h 12 (by decide) (by decide)
    have a1 := h 9 (by decide) (by decide)
    have a2 := h 5 (by decide) (by decide)
    simp at a0 a1 a2
    simp [mz]
    try grind
  · have a0 := h 12 (by decide) (by decide)
    have a1 := h 10 (by decide) (by decide)
    have a2 := h 6 (by decide) (by decide)
    simp at a0 a1 a2
    simp [mz]
    try grind
  · have a0 := h 14 (by decide) (by decide)
    have a1 := h 13 (by decide) (by decide)
    have a2 := h 11 (by decide) (by decide)
    have a3 := h 7 (by decide) (by decide)
    simp at a0 a1 a2 a3
    simp [mz]
    try grind
theorem cm_1_0 (he : ∀ j, j < 4 → j ≠ 0 → E2 l j = E l j) (hg : E2 l 0 = E l 0 + v * E l 1) {C : Nat} (hC : C < 16) (h : ∀ S, S < 16 → pop4 S + 1 = pop4 C → y S = if S / 2 ^ 0 % 2 = 1 ∧ S / 2 ^ 1 % 2 = 0 then x S + x (S ^^^ 2 ^ 1 ^^^ 2 ^ 0) * v else x S) : mz E2 (fun j => y (C ^^^ 2 ^ j)) l C 4 0 1 = if C / 2 ^ 0 % 2 = 1 ∧ C / 2 ^ 1 % 2 = 0 then mz E (fun j => x (C ^^^ 2 ^ j)) l C 4 0 1 + mz E (fun j => x (C ^^^ 2 ^ 1 ^^^ 2 ^ 0 ^^^ 2 ^ j)) l (C ^^^ 2 ^ 1 ^^^ 2 ^ 0) 4 0 1 * v else mz E (fun j => x (C ^^^ 2 ^ j)) l C 4 0 1 := by
  have e1 := he 1 (by decide) (by decide)
  have e2 := he 2 (by decide) (by decide)
  have e3 := he 3 (by decide) (by decide)
  rcases (show C = 0 ∨ C = 1 ∨ C = 2 ∨ C = 3 ∨ C = 4 ∨ C = 5 ∨ C = 6 ∨ C = 7 ∨ C = 8 ∨ C = 9 ∨ C = 10 ∨ C = 11 ∨ C = 12 ∨ C = 13 ∨ C = 14 ∨ C = 15 by omega) with rfl | rfl | rfl | rfl | rfl | rfl | rfl | rfl | rfl | rfl | rfl | rfl | rfl | rfl | rfl | rfl
  · simp [mz]
    try grind
  · have a0 := h 0 (by decide) (by decide)
    simp at a0
    simp [mz]
    try grind
  · have a0 := h 0 (by decide) (by decide)
    simp at a0
    simp [mz]
    try grind
  · have a0 := h 2 (by decide) (by decide)
    have a1 := h 1 (by decide) (by decide)
    simp at a0 a1
    simp [mz]
    try grind
  · have a0 := h 0 (by decide) (by decide)
    simp at a0
    simp [mz]
    try grind
  · have a0 := h 4 (by decide) (by decide)
    have a1 := h 1 (by decide) (by decide)
    simp at a0 a1
    simp [mz]
    try grind
  · have a0 := h 4 (by decide) (by decide)
    have a1 := h 2 (by decide) (by decide)
    simp at a0 a1
    simp [mz]
    try grind
  · have a0 := h 6 (by decide) (by decide)
    have a1 := h 5 (by decide) (by decide)
    have a2 := h 3 (by decide) (by decide)
    simp at a0 a1 a2
    simp [mz]
    try grind
  · have a0 := h 0 (by decide) (by decide)
    simp at a0
    simp [mz]
    try grind
  · have a0 := h 8 (by decide) (by decide)
    have a1 := h 1 (by decide) (by decide)
    simp at a0 a1
    simp [mz]
    try grind
  · have a0 := h 8 (by decide) (by decide)
    have a1 := h 2 (by decide) (by decide)
    simp at a0 a1
    simp [mz]
    try grind
  · have a0 := h 10 (by decide) (by decide)
    have a1 := h 9 (by decide) (by decide)
    have a2 := h 3 (by decide) (by decide)
    simp at a0 a1 a2
    simp [mz]
    try grind
  · have a0 := h 8 (by decide) (by decide)
    have a1 := h 4 (by decide) (by decide)
    simp at a0 a1
    simp [mz]
    try grind
  · have a0 := h 12 (by decide) (by decide)
    have a1 := h 9 (by decide) (by decide)
    have a2 := h 5 (by decide) (by decide)
    simp at a0 a1 a2
    simp [mz]
    try grind
  · have a0 := h 12 (by decide) (by decide)
    have a1 := h 10 (by decide) (by decide)
    have a2 := h 6 (by decide) (by decide)
    simp at a0 a1 a2
    simp [mz]
    try grind
  · have a0 := h 14 (by decide) (by decide)
    have a1 := h 13 (by decide) (by decide)
    have a2 := h 11 (by decide) (by decide)
    have a3 := h 7 (by decide) (by decide)
    simp at a0 a1 a2 a3
    simp [mz]
    try grind
theorem cm_1_2 (he : ∀ j, j < 4 → j ≠ 2 → E2 l j = E l j) (hg : E2 l 2 = E l 2 + v * E l 1) {C : Nat} (hC : C < 16) (h : ∀ S, S < 16 → pop4 S + 1 = pop4 C → y S = if S / 2 ^ 2 % 2 = 1 ∧ S / 2 ^ 1 % 2 = 0 then x S + x (S ^^^ 2 ^ 1 ^^^ 2 ^ 2) * v else x S) : mz E2 (fun j => y (C ^^^ 2 ^ j)) l C 4 0 1 = if C / 2 ^ 2 % 2 = 1 ∧ C / 2 ^ 1 % 2 = 0 then mz E (fun j => x (C ^^^ 2 ^ j)) l C 4 0 1 + mz E (fun j => x (C ^^^ 2 ^ 1 ^^^ 2 ^ 2 ^^^ 2 ^ j)) l (C ^^^ 2 ^ 1 ^^^ 2 ^ 2) 4 0 1 * v else mz E (fun j => x (C ^^^ 2 ^ j)) l C 4 0 1 := by
  have e0 := he 0 (by decide) (by decide)
  have e1 := he 1 (by decide) (by decide)
  have e3 := he 3 (by decide) (by decide)
  rcases (show C = 0 ∨ C = 1 ∨ C = 2 ∨ C = 3 ∨ C = 4 ∨ C = 5 ∨ C = 6 ∨ C = 7 ∨ C = 8 ∨ C = 9 ∨ C = 10 ∨ C = 11 ∨ C = 12 ∨ C = 13 ∨ C = 14 ∨ C = 15 by omega) with rfl | rfl | rfl | rfl | rfl | rfl | rfl | rfl | rfl | rfl | rfl | rfl | rfl | rfl | rfl | rfl
  · simp [mz]
    try grind
  · have a0 := h 0 (by decide) (by decide)
    simp at a0
    simp [mz]
    try grind
  · have a0 := h 0 (by decide) (by decide)
    simp at a0
    simp [mz]
    try grind
  · have a0 := h 2 (by decide) (by decide)
    have a1 := h 1 (by decide) (by decide)
    simp at a0 a1
    simp [mz]
    try grind
  · have a0 := h 0 (by decide) (by decide)
    simp at a0
    simp [mz]
    try grind
  · have a0 := h 4 (by decide) (by decide)
    have a1 := h 1 (by decide) (by decide)
    simp at a0 a1
    simp [mz]
    try grind
  · have a0 := h 4 (by decide) (by decide)
    have a1 := h 2 (by decide) (by decide)
    simp at a0 a1
    simp [mz]
    try grind
  · have a0 := h 6 (by decide) (by decide)
    have a1 := h 5 (by decide) (by decide)
    have a2 := h 3 (by decide) (by decide)
    simp at a0 a1 a2
    simp [mz]
    try grind
  · have a0 := h 0 (by decide) (by decide)
    simp at a0
    simp [mz]
    try grind
  · have a0 := h 8 (by decide) (by decide)
    have a1 := h 1 (by decide) (by decide)
    simp at a0 a1
    simp [mz]
    try grind
  · have a0 := h 8 (by decide) (by decide)
    have a1 := h 2 (by decide) (by decide)
    simp at a0 a1
    simp [mz]
    try grind
  · have a0 := h 10 (by decide) (by decide)
    have a1 := h 9 (by decide) (by decide)
    have a2 := h 3 (by decide) (by decide)
    simp at a0 a1 a2
    simp [mz]
    try grind
  · have a0 := h 8 (by decide) (by decide)
    have a1 := h 4 (by decide) (by decide)
    simp at a0 a1
    simp [mz]
    try grind
  · have a0 := h 12 (by decide) (by decide)
    have a1 := h 9 (by decide) (by decide)
    have a2 := h 5 (by decide) (by decide)
    simp at a0 a1 a2
    simp [mz]
    try grind
  · have a0 := h 12 (by decide) (by decide)
    have a1 := h 10 (by decide) (by decide)
    have a2 := h 6 (by decide) (by decide)
    simp at a0 a1 a2
    simp [mz]
    try grind
  · have a0 := h 14 (by decide) (by decide)
    have a1 := h 13 (by decide) (by decide)
    have a2 := h 11 (by decide) (by decide)
    have a3 := h 7 (by decide) (by decide)
    simp at a0 a1 a2 a3
    simp [mz]
    try grind
theorem cm_2_1 (he : ∀ j, j < 4 → j ≠ 1 → E2 l j = E l j) (hg : E2 l 1 = E l 1 + v * E l 2) {C : Nat} (hC : C < 16) (h : ∀ S, S < 16 → pop4 S + 1 = pop4 C → y S = if S / 2 ^ 1 % 2 = 1 ∧ S / 2 ^ 2 % 2 = 0 then x S + x (S ^^^ 2 ^ 2 ^^^ 2 ^ 1) * v else x S) : mz E2 (fun j => y (C ^^^ 2 ^ j)) l C 4 0 1 = if C / 2 ^ 1 % 2 = 1 ∧ C / 2 ^ 2 % 2 = 0 then mz E (fun j => x (C ^^^ 2 ^ j)) l C 4 0 1 + mz E (fun j => x (C ^^^ 2 ^ 2 ^^^ 2 ^ 1 ^^^ 2 ^ j)) l (C ^^^ 2 ^ 2 ^^^ 2 ^ 1) 4 0 1 * v else mz E (fun j => x (C ^^^ 2 ^ j)) l C 4 0 1 := by
  have e0 := he 0 (by decide) (by decide)
  have e2 := he 2 (by decide) (by decide)
  have e3 := he 3 (by decide) (by decide)
  rcases (show C = 0 ∨ C = 1 ∨ C = 2 ∨ C = 3 ∨ C = 4 ∨ C = 5 ∨ C = 6 ∨ C = 7 ∨ C = 8 ∨ C = 9 ∨ C = 10 ∨ C = 11 ∨ C = 12 ∨ C = 13 ∨ C = 14 ∨ C = 15 by omega) with rfl | rfl | rfl | rfl | rfl | rfl | rfl | rfl | rfl | rfl | rfl | rfl | rfl | rfl | rfl | rfl
  · simp [mz]
    try grind
  · have a0 := h 0 (by decide) (by decide)
    simp at a0
    simp [mz]
    try grind
  · have a0 := h 0 (by decide) (by decide)
    simp at a0
    simp [mz]
    try grind
  · have a0 := h 2 (by decide) (by decide)
    have a1 := h 1 (by decide) (by decide)
    simp at a0 a1
    simp [mz]
    try grind
  · have a0 := h 0 (by decide) (by decide)
    simp at a0
    simp [mz]
    try grind
  · have a0 := h 4 (by decide) (by decide)
    have a1 := h 1 (by decide) (by decide)
    simp at a0 a1
    simp [mz]
    try grind
  · have a0 := h 4 (by decide) (by decide)
    have a1 := h 2 (by decide) (by decide)
    simp at a0 a1
    simp [mz]
    try grind
  · have a0 := h 6 (by decide) (by decide)
    have a1 := h 5 (by decide) (by decide)
    have a2 := h 3 (by decide) (by decide)
    simp at a0 a1 a2
    simp [mz]
    try grind
  · have a0 := h 0 (by decide) (by decide)
    simp at a0
    simp [mz]
    try grind
  · have a0 := h 8 (by decide) (by decide)
    have a1 := h 1 (by decide) (by decide)
    simp at a0 a1
    simp [mz]
    try grind
  · have a0 := h 8 (by decide) (by decide)
    have a1 := h 2 (by decide) (by decide)
    simp at a0 a1
    simp [mz]
    try grind
  · have a0 := h 10 (by decide) (by decide)
    have a1 := h 9 (by decide) (by decide)
    have a2 := h 3 (by decide) (by decide)
    simp at a0 a1 a2
    simp [mz]
    try grind
  · have a0 := h 8 (by decide) (by decide)
    have a1 := h 4 (by decide) (by decide)
    simp at a0 a1
    simp [mz]
    try grind
  · have a0 := h 12 (by decide) (by decide)
    have a1 := h 9 (by decide) (by decide)
    have a2 := h 5 (by decide) (by decide)
    simp at a0 a1 a2
    simp [mz]
    try grind
  · have a0 := h 12 (by decide) (by decide)
    have a1 := h 10 (by decide) (by decide)
    have a2 := h 6 (by decide) (by decide)
    simp at a0 a1 a2
    simp [mz]
    try grind
  · have a0 := h 14 (by decide) (by decide)
    have a1 := h 13 (by decide) (by decide)
    have a2 := h 11 (by decide) (by decide)
    have a3 := h 7 (by decide) (by decide)
    simp at a0 a1 a2 a3
    simp [mz]
    try grind
theorem cm_2_3 (he : ∀ j, j < 4 → j ≠ 3 → E2 l j = E l j) (hg : E2 l 3 = E l 3 + v * E l 2) {C : Nat} (hC : C < 16) (h : ∀ S, S < 16 → pop4 S + 1 = pop4 C → y S = if S / 2 ^ 3 % 2 = 1 ∧ S / 2 ^ 2 % 2 = 0 then x S + x (S ^^^ 2 ^ 2 ^^^ 2 ^ 3) * v else x S) : mz E2 (fun j => y (C ^^^ 2 ^ j)) l C 4 0 1 = if C / 2 ^ 3 % 2 = 1 ∧ C / 2 ^ 2 % 2 = 0 then mz E (fun j => x (C ^^^ 2 ^ j)) l C 4 0 1 + mz E (fun j => x (C ^^^ 2 ^ 2 ^^^ 2 ^ 3 ^^^ 2 ^ j)) l (C ^^^ 2 ^ 2 ^^^ 2 ^ 3) 4 0 1 * v else mz E (fun j => x (C ^^^ 2 ^ j)) l C 4 0 1 := by
  have e0 := he 0 (by decide) (by decide)
  have e1 := he 1 (by decide) (by decide)
  have e2 := he 2 (by decide) (by decide)
  rcases (show C = 0 ∨ C = 1 ∨ C = 2 ∨ C = 3 ∨ C = 4 ∨ C = 5 ∨ C = 6 ∨ C = 7 ∨ C = 8 ∨ C = 9 ∨ C = 10 ∨ C = 11 ∨ C = 12 ∨ C = 13 ∨ C = 14 ∨ C = 15 by omega) with rfl | rfl | rfl | rfl | rfl | rfl | rfl | rfl | rfl | rfl | rfl | rfl | rfl | rfl | rfl | rfl
  · simp [mz]
    try grind
  · have a0 := h 0 (by decide) (by decide)
    simp at a0
    simp [mz]
    try grind
  · have a0 := h 0 (by decide) (by decide)
    simp at a0
    simp [mz]
    try grind
  · have a0 := h 2 (by decide) (by decide)
    have a1 := h 1 (by decide) (by decide)
    simp at a0 a1
    simp [mz]
    try grind
  · have a0 := h 0 (by decide) (by decide)
    simp at a0
    simp [mz]
    try grind
  · have a0 := h 4 (by decide) (by decide)
    have a1 := h 1 (by decide) (by decide)
    simp at a0 a1
    simp [mz]
    try grind
  · have a0 := h 4 (by decide) (by decide)
    have a1 := h 2 (by decide) (by decide)
    simp at a0 a1
    simp [mz]
    try grind
  · have a0 := h 6 (by decide) (by decide)
    have a1 := h 5 (by decide) (by decide)
    have a2 := h 3 (by decide) (by decide)
    simp at a0 a1 a2
    simp [mz]
    try grind
  · have a0 := h 0 (by decide) (by decide)
    simp at a0
    simp [mz]
    try grind
  · have a0 := h 8 (by decide) (by decide)
    have a1 := h 1 (by decide) (by decide)
    simp at a0 a1
    simp [mz]
    try grind
  · have a0 := h 8 (by decide) (by decide)
    have a1 := h 2 (by decide) (by decide)
    simp at a0 a1
    simp [mz]
    try grind
  · have a0 := h 10 (by decide) (by decide)
    have a1 := h 9 (by decide) (by decide)
    have a2 := h 3 (by decide) (by decide)
    simp at a0 a1 a2
    simp [mz]
    try grind
  · have a0 := h 8 (by decide) (by decide)
    have a1 := h 4 (by decide) (by decide)
    simp at a0 a1
    simp [mz]
    try grind
  · have a0 := h 12 (by decide) (by decide)
    have a1 := h 9 (by decide) (by decide)
    have a2 := h 5 (by decide) (by decide)
    simp at a0 a1 a2
    simp [mz]
    try grind
  · have a0 := h 12 (by decide) (by decide)
    have a1 := h 10 (by decide) (by decide)
    have a2 := h 6 (by decide) (by decide)
    simp at a0 a1 a2
    simp [mz]
    try grind
  · have a0 := h 14 (by decide) (by decide)
    have a1 := h 13 (by decide) (by decide)
    have a2 := h 11 (by decide) (by decide)
    have a3 := h 7 (by decide) (by decide)
    simp at a0 a1 a2 a3
    simp [mz]
    try grind
theorem cm_3_2 (he : ∀ j, j < 4 → j ≠ 2 → E2 l j = E l j) (hg : E2 l 2 = E l 2 + v * E l 3) {C : Nat} (hC : C < 16) (h : ∀ S, S < 16 → pop4 S + 1 = pop4 C → y S = if S / 2 ^ 2 % 2 = 1 ∧ S / 2 ^ 3 % 2 = 0 then x S + x (S ^^^ 2 ^ 3 ^^^ 2 ^ 2) * v else x S) : mz E2 (fun j => y (C ^^^ 2 ^ j)) l C 4 0 1 = if C / 2 ^ 2 % 2 = 1 ∧ C / 2 ^ 3 % 2 = 0 then mz E (fun j => x (C ^^^ 2 ^ j)) l C 4 0 1 + mz E (fun j => x (C ^^^ 2 ^ 3 ^^^ 2 ^ 2 ^^^ 2 ^ j)) l (C ^^^ 2 ^ 3 ^^^ 2 ^ 2) 4 0 1 * v else mz E (fun j => x (C ^^^ 2 ^ j)) l C 4 0 1 := by
  have e0 := he 0 (by decide) (by decide)
  have e1 := he 1 (by decide) (by decide)
  have e3 := he 3 (by decide) (by decide)
  rcases (show C = 0 ∨ C = 1 ∨ C = 2 ∨ C = 3 ∨ C = 4 ∨ C = 5 ∨ C = 6 ∨ C = 7 ∨ C = 8 ∨ C = 9 ∨ C = 10 ∨ C = 11 ∨ C = 12 ∨ C = 13 ∨ C = 14 ∨ C = 15 by omega) with rfl | rfl | rfl | rfl | rfl | rfl | rfl | rfl | rfl | rfl | rfl | rfl | rfl | rfl | rfl | rfl
  · simp [mz]
    try grind
  · have a0 := h 0 (by decide) (by decide)
    simp at a0
    simp [mz]
    try grind
  · have a0 := h 0 (by decide) (by decide)
    simp at a0
    simp [mz]
    try grind
  · have a0 := h 2 (by decide) (by decide)
    have a1 := h 1 (by decide) (by decide)
    simp at a0 a1
    simp [mz]
    try grind
  · have a0 := h 0 (by decide) (by decide)
    simp at a0
    simp [mz]
    try grind
  · have a0 := h 4 (by decide) (by decide)
    have a1 := h 1 (by decide) (by decide)
    simp at a0 a1
    simp [mz]
    try grind
  · have a0 := h 4 (by decide) (by decide)
    have a1 := h 2 (by decide) (by decide)
    simp at a0 a1
    simp [mz]
    try grind
  · have a0 := h 6 (by decide) (by decide)
    have a1 := h 5 (by decide) (by decide)
    have a2 := h 3 (by decide) (by decide)
    simp at a0 a1 a2
    simp [mz]
    try grind
  · have a0 := h 0 (by decide) (by decide)
    simp at a0
    simp [mz]
    try grind
  · have a0 := h 8 (by decide) (by decide)
    have a1 := h 1 (by decide) (by decide)
    simp at a0 a1
    simp [mz]
    try grind
  · have a0 := h 8 (by decide) (by decide)
    have a1 := h 2 (by decide) (by decide)
    simp at a0 a1
    simp [mz]
    try grind
  · have a0 := h 10 (by decide) (by decide)
    have a1 := h 9 (by decide) (by decide)
    have a2 := h 3 (by decide) (by decide)
    simp at a0 a1 a2
    simp [mz]
    try grind
  · have a0 := h 8 (by decide) (by decide)
    have a1 := h 4 (by decide) (by decide)
    simp at a0 a1
    simp [mz]
    try grind
  · have a0 := h 12 (by decide) (by decide)
    have a1 := h 9 (by decide) (by decide)
    have a2 := h 5 (by decide) (by decide)
    simp at a0 a1 a2
    simp [mz]
    try grind
  · have a0 := h 12 (by decide) (by decide)
    have a1 := h 10 (by decide) (by decide)
    have a2 := h 6 (by decide) (by decide)
    simp at a0 a1 a2
    simp [mz]
    try grind
  · have a0 := h 14 (by decide) (by decide)
    have a1 := h 13 (by decide) (by decide)
    have a2 := h 11 (by decide) (by decide)
    have a3 := h 7 (by decide) (by decide)
    simp at a0 a1 a2 a3
    simp [mz]
    try grind
theorem cs_0 (he : ∀ j, j < 4 → j ≠ 0 → E2 l j = E l j) (hg : E2 l 0 = E l 0 * v) {C : Nat} (hC : C < 16) (h : ∀ S, S < 16 → pop4 S + 1 = pop4 C → y S = if S / 2 ^ 0 % 2 = 1 then x S * v else x S) : mz E2 (fun j => y (C ^^^ 2 ^ j)) l C 4 0 1 = if C / 2 ^ 0 % 2 = 1 then mz E (fun j => x (C ^^^ 2 ^ j)) l C 4 0 1 * v else mz E (fun j => x (C ^^^ 2 ^ j)) l C 4 0 1 := by
  have e1 := he 1 (by decide) (by decide)
  have e2 := he 2 (by decide) (by decide)
  have e3 := he 3 (by decide) (by decide)
  rcases (show C = 0 ∨ C = 1 ∨ C = 2 ∨ C = 3 ∨ C = 4 ∨ C = 5 ∨ C = 6 ∨ C = 7 ∨ C = 8 ∨ C = 9 ∨ C = 10 ∨ C = 11 ∨ C = 12 ∨ C = 13 ∨ C = 14 ∨ C = 15 by omega) with rfl | rfl | rfl | rfl | rfl | rfl | rfl | rfl | rfl | rfl | rfl | rfl | rfl | rfl | rfl | rfl
  · simp [mz]
    try grind
  · have a0 := h 0 (by decide) (by decide)
    simp at a0
    simp [mz]
    try grind
  · have a0 := h 0 (by decide) (by decide)
    simp at a0
    simp [mz]
    try grind
  · have a0 := h 2 (by decide) (by decide)
    have a1 := h 1 (by decide) (by decide)
    simp at a0 a1
    simp [mz]
    try grind
  · have a0 := h 0 (by decide) (by decide)
    simp at a0
    simp [mz]
    try grind
  · have a0 := h 4 (by decide) (by decide)
    have a1 := h 1 (by decide) (by decide)
    simp at a0 a1
    simp [mz]
    try grind
  · have a0 := h 4 (by decide) (by decide)
    have a1 := h 2 (by decide) (by decide)
    simp at a0 a1
    simp [mz]
    try grind
  · have a0 := h 6 (by decide) (by decide)
    have a1 := h 5 (by decide) (by decide)
    have a2 := h 3 (by decide) (by decide)
    simp at a0 a1 a2
    simp [mz]
    try grind
  · have a0 := h 0 (by decide) (by decide)
    simp at a0
    simp [mz]
    try grind
  · have a0 := h 8 (by decide) (by decide)
    have a1 := h 1 (by decide) (by decide)
    simp at a0 a1
    simp [mz]
    try grind
  · have a0 := h 8 (by decide) (by decide)
    have a1 := h 2 (by decide) (by decide)
    simp at a0 a1
    simp [mz]
    try grind
  · have a0 := h 10 (by decide) (by decide)
    have a1 := h 9 (by decide) (by decide)
    have a2 := h 3 (by decide) (by decide)
    simp at a0 a1 a2
    simp [mz]
    try grind
  · have a0 := h 8 (by decide) (by decide)
    have a1 := h 4 (by decide) (by decide)
    simp at a0 a1
    simp [mz]
    try grind
  · have a0 := h 12 (by decide) (by decide)
    have a1 := h 9 (by decide) (by decide)
    have a2 := h 5 (by decide) (by decide)
    simp at a0 a1 a2
    simp [mz]
    try grind
  · have a0 := h 12 (by decide) (by decide)
    have a1 := h 10 (by decide) (by decide)
    have a2 := h 6 (by decide) (by decide)
    simp at a0 a1 a2
    simp [mz]
    try grind
  · have a0 := h 14 (by decide) (by decide)
    have a1 := h 13 (by decide) (by decide)
    have a2 := h 11 (by decide) (by decide)
    have a3 := h 7 (by decide) (by decide)
    simp at a0 a1 a2 a3
    simp [mz]
    try grind
theorem cs_1 (he : ∀ j, j < 4 → j ≠ 1 → E2 l j = E l j) (hg : E2 l 1 = E l 1 * v) {C : Nat} (hC : C < 16) (h : ∀ S, S < 16 → pop4 S + 1 = pop4 C → y S = if S / 2 ^ 1 % 2 = 1 then x S * v else x S) : mz E2 (fun j => y (C ^^^ 2 ^ j)) l C 4 0 1 = if C / 2 ^ 1 % 2 = 1 then mz E (fun j => x (C ^^^ 2 ^ j)) l C 4 0 1 * v else mz E (fun j => x (C ^^^ 2 ^ j)) l C 4 0 1 := by
  have e0 := he 0 (by decide) (by decide)
  have e2 := he 2 (by decide) (by decide)
  have e3 := he 3 (by decide) (by decide)
  rcases (show C = 0 ∨ C = 1 ∨ C = 2 ∨ C = 3 ∨ C = 4 ∨ C = 5 ∨ C = 6 ∨ C = 7 ∨ C = 8 ∨ C = 9 ∨ C = 10 ∨ C = 11 ∨ C = 12 ∨ C = 13 ∨ C = 14 ∨ C = 15 by omega) with rfl | rfl | rfl | rfl | rfl | rfl | rfl | rfl | rfl | rfl | rfl | rfl | rfl | rfl | rfl | rfl
  · simp [mz]
    try grind
  · have a0 := h 0 (by decide) (by decide)
    simp at a0
    simp [mz]
    try grind
  · have a0 := h 0 (by decide) (by decide)
    simp at a0
    simp [mz]
    try grind
  · have a0 := h 2 (by decide) (by decide)
    have a1 := h 1 (by decide) (by decide)
    simp at a0 a1
    simp [mz]
    try grind
  · have a0 := h 0 (by decide) (by decide)
    simp at a0
    simp [mz]
    try grind
  · have a0 := h 4 (by decide) (by decide)
    have a1 := h 1 (by decide) (by decide)
    simp at a0 a1
    simp [mz]
    try grind
  · have a0 := h 4 (by decide) (by decide)
    have a1 := h 2 (by decide) (by decide)
    simp at a0 a1
    simp [mz]
    try grind
  · have a0 := h 6 (by decide) (by decide)
    have a1 := h 5 (by decide) (by decide)
    have a2 := h 3 (by decide) (by decide)
    simp at a0 a1 a2
    simp [mz]
    try grind
  · have a0 := h 0 (by decide) (by decide)
    simp at a0
    simp [mz]
    try grind
  · have a0 := h 8 (by decide) (by decide)
    have a1 := h 1 (by decide) (by decide)
    simp at a0 a1
    simp [mz]
    try grind
  · have a0 := h 8 (by decide) (by decide)
    have a1 := h 2 (by decide) (by decide)
    simp at a0 a1
    simp [mz]
    try grind
  · have a0 := h 10 (by decide) (by decide)
    have a1 := h 9 (by decide) (by decide)
    have a2 := h 3 (by decide) (by decide)
    simp at a0 a1 a2
    simp [mz]
    try grind
  · have a0 := h 8 (by decide) (by decide)
    have a1 := h 4 (by decide) (by decide)
    simp at a0 a1
    simp [mz]
    try grind
  · have a0 := h 12 (by decide) (by decide)
    have a1 := h 9 (by decide) (by decide)
    have a2 := h 5 (by decide) (by decide)
    simp at a0 a1 a2
    simp [mz]
    try grind
  · have a0 := h 12 (by decide) (by decide)
    have a1 := h 10 (by decide) (by decide)
    have a2 := h 6 (by decide) (by decide)
    simp at a0 a1 a2
    simp [mz]
    try grind
  · have a0 := h 14 (by decide) (by decide)
    have a1 := h 13 (by decide) (by decide)
    have a2 := h 11 (by decide) (by decide)
    have a3 := h 7 (by decide) (by decide)
    simp at a0 a1 a2 a3
    simp [mz]
    try grind
theorem cs_2 (he : ∀ j, j < 4 → j ≠ 2 → E2 l j = E l j) (hg : E2 l 2 = E l 2 * v) {C : Nat} (hC : C < 16) (h : ∀ S, S < 16 → pop4 S + 1 = pop4 C → y S = if S / 2 ^ 2 % 2 = 1 then x S * v else x S) : mz E2 (fun j => y (C ^^^ 2 ^ j)) l C 4 0 1 = if C / 2 ^ 2 % 2 = 1 then mz E (fun j => x (C ^^^ 2 ^ j)) l C 4 0 1 * v else mz E (fun j => x (C ^^^ 2 ^ j)) l C 4 0 1 := by
  have e0 := he 0 (by decide) (by decide)
  have e1 := he 1 (by decide) (by decide)
  have e3 := he 3 (by decide) (by decide)
  rcases (show C = 0 ∨ C = 1 ∨ C = 2 ∨ C = 3 ∨ C = 4 ∨ C = 5 ∨ C = 6 ∨ C = 7 ∨ C = 8 ∨ C = 9 ∨ C = 10 ∨ C = 11 ∨ C = 12 ∨ C = 13 ∨ C = 14 ∨ C = 15 by omega) with rfl | rfl | rfl | rfl | rfl | rfl | rfl | rfl | rfl | rfl | rfl | rfl | rfl | rfl | rfl | rfl
  · simp [mz]
    try grind
  · have a0 := h 0 (by decide) (by decide)
    simp at a0
    simp [mz]
    try grind
  · have a0 := h 0 (by decide) (by decide)
    simp at a0
    simp [mz]
    try grind
  · have a0 := h 2 (by decide) (by decide)
    have a1 := h 1 (by decide) (by decide)
    simp at a0 a1
    simp [mz]
    try grind
  · have a0 := h 0 (by decide) (by decide)
    simp at a0
    simp [mz]
    try grind
  · have a0 := h 4 (by decide) (by decide)
    have a1 := h 1 (by decide) (by decide)
    simp at a0 a1
    simp [mz]
    try grind
  · have a0 := h 4 (by decide) (by decide)
    have a1 := h 2 (by decide) (by decide)
    simp at a0 a1
    simp [mz]
    try grind
  · have a0 := h 6 (by decide) (by decide)
    have a1 := h 5 (by decide) (by decide)
    have a2 := h 3 (by decide) (by decide)
    simp at a0 a1 a2
    simp [mz]
    try grind
  · have a0 := h 0 (by decide) (by decide)
    simp at a0
    simp [mz]
    try grind
  · have a0 := h 8 (by decide) (by decide)
    have a1 := h 1 (by decide) (by decide)
    simp at a0 a1
    simp [mz]
    try grind
  · have a0 := h 8 (by decide) (by decide)
    have a1 := h 2 (by decide) (by decide)
    simp at a0 a1
    simp [mz]
    try grind
  · have a0 := h 10 (by decide) (by decide)
    have a1 := h 9 (by decide) (by decide)
    have a2 := h 3 (by decide) (by decide)
    simp at a0 a1 a2
    simp [mz]
    try grind
  · have a0 := h 8 (by decide) (by decide)
    have a1 := h 4 (by decide) (by decide)
    simp at a0 a1
    simp [mz]
    try grind
  · have a0 := h 12 (by decide) (by decide)
    have a1 := h 9 (by decide) (by decide)
    have a2 := h 5 (by decide) (by decide)
    simp at a0 a1 a2
    simp [mz]
    try grind
  · have a0 := h 12 (by decide) (by decide)
    have a1 := h 10 (by decide) (by decide)
    have a2 := h 6 (by decide) (by decide)
    simp at a0 a1 a2
    simp [mz]
    try grind
  · have a0 := h 14 (by decide) (by decide)
    have a1 := h 13 (by decide) (by decide)
    have a2 := h 11 (by decide) (by decide)
    have a3 := h 7 (by decide) (by decide)
    simp at a0 a1 a2 a3
    simp [mz]
    try grind
theorem cs_3 (he : ∀ j, j < 4 → j ≠ 3 → E2 l j = E l j) (hg : E2 l 3 = E l 3 * v) {C : Nat} (hC : C < 16) (h : ∀ S, S < 16 → pop4 S + 1 = pop4 C → y S = if S / 2 ^ 3 % 2 = 1 then x S * v else x S) : mz E2 (fun j => y (C ^^^ 2 ^ j)) l C 4 0 1 = if C / 2 ^ 3 % 2 = 1 then mz E (fun j => x (C ^^^ 2 ^ j)) l C 4 0 1 * v else mz E (fun j => x (C ^^^ 2 ^ j)) l C 4 0 1 := by
  have e0 := he 0 (by decide) (by decide)
  have e1 := he 1 (by decide) (by decide)
  have e2 := he 2 (by decide) (by decide)
  rcases (show C = 0 ∨ C = 1 ∨ C = 2 ∨ C = 3 ∨ C = 4 ∨ C = 5 ∨ C = 6 ∨ C = 7 ∨ C = 8 ∨ C = 9 ∨ C = 10 ∨ C = 11 ∨ C = 12 ∨ C = 13 ∨ C = 14 ∨ C = 15 by omega) with rfl | rfl | rfl | rfl | rfl | rfl | rfl | rfl | rfl | rfl | rfl | rfl | rfl | rfl | rfl | rfl
  · simp [mz]
    try grind
  · have a0 := h 0 (by decide) (by decide)
    simp at a0
    simp [mz]
    try grind
  · have a0 := h 0 (by decide) (by decide)
    simp at a0
    simp [mz]
    try grind
  · have a0 := h 2 (by decide) (by decide)
    have a1 := h 1 (by decide) (by decide)
    simp at a0 a1
    simp [mz]
    try grind
  · have a0 := h 0 (by decide) (by decide)
    simp at a0
    simp [mz]
    try grind
  · have a0 := h 4 (by decide) (by decide)
    have a1 := h 1 (by decide) (by decide)
    simp at a0 a1
    simp [mz]
    try grind
  · have a0 := h 4 (by decide) (by decide)
    have a1 := h 2 (by decide) (by decide)
    simp at a0 a1
    simp [mz]
    try grind
  · have a0 := h 6 (by decide) (by decide)
    have a1 := h 5 (by decide) (by decide)
    have a2 := h 3 (by decide) (by decide)
    simp at a0 a1 a2
    simp [mz]
    try grind
  · have a0 := h 0 (by decide) (by decide)
    simp at a0
    simp [mz]
    try grind
  · have a0 := h 8 (by decide) (by decide)
    have a1 := h 1 (by decide) (by decide)
    simp at a0 a1
    simp [mz]
    try grind
  · have a0 := h 8 (by decide) (by decide)
    have a1 := h 2 (by decide) (by decide)
    simp at a0 a1
    simp [mz]
    try grind
  · have a0 := h 10 (by decide) (by decide)
    have a1 := h 9 (by decide) (by decide)
    have a2 := h 3 (by decide) (by decide)
    simp at a0 a1 a2
    simp [mz]
    try grind
  · have a0 := h 8 (by decide) (by decide)
    have a1 := h 4 (by decide) (by decide)
    simp at a0 a1
    simp [mz]
    try grind
  · have a0 := h 12 (by decide) (by decide)
    have a1 := h 9 (by decide) (by decide)
    have a2 := h 5 (by decide) (by decide)
    simp at a0 a1 a2
    simp [mz]
    try grind
  · have a0 := h 12 (by decide) (by decide)
    have a1 := h 10 (by decide) (by decide)
    have a2 := h 6 (by decide) (by decide)
    simp at a0 a1 a2
    simp [mz]
    try grind
  · have a0 := h 14 (by decide) (by decide)
    have a1 := h 13 (by decide) (by decide)
    have a2 := h 11 (by decide) (by decide)
    have a3 := h 7 (by decide) (by decide)
    simp at a0 a1 a2 a3
    simp [mz]
    try grind
end CM
