/-! the two expansions of a minor are one number: each pair of sets of lines by itself -/
theorem dd_0_0 (E p0 : Nat → Int64) : lpN (detF E 4 0 0) 15 1 (up p0 0 1) 0 = dL (fun i j => E (4 * i + j)) 4 0 0 := by
  simp [lpN, detF, expF, lnf, pop4, up, dL, mz, lowb]
  try grind
theorem dd_1_1 (E p0 : Nat → Int64) : lpN (detF E 4 1 1) 15 1 (up p0 0 1) 1 = dL (fun i j => E (4 * i + j)) 4 1 1 := by
  simp [lpN, detF, expF, lnf, pop4, up, dL, mz, lowb]
  try grind
theorem dd_1_2 (E p0 : Nat → Int64) : lpN (detF E 4 1 2) 15 1 (up p0 0 1) 2 = dL (fun i j => E (4 * i + j)) 4 1 2 := by
  simp [lpN, detF, expF, lnf, pop4, up, dL, mz, lowb]
  try grind
theorem dd_1_4 (E p0 : Nat → Int64) : lpN (detF E 4 1 4) 15 1 (up p0 0 1) 4 = dL (fun i j => E (4 * i + j)) 4 1 4 := by
  simp [lpN, detF, expF, lnf, pop4, up, dL, mz, lowb]
  try grind
theorem dd_1_8 (E p0 : Nat → Int64) : lpN (detF E 4 1 8) 15 1 (up p0 0 1) 8 = dL (fun i j => E (4 * i + j)) 4 1 8 := by
  simp [lpN, detF, expF, lnf, pop4, up, dL, mz, lowb]
  try grind
theorem dd_2_1 (E p0 : Nat → Int64) : lpN (detF E 4 2 1) 15 1 (up p0 0 1) 1 = dL (fun i j => E (4 * i + j)) 4 2 1 := by
  simp [lpN, detF, expF, lnf, pop4, up, dL, mz, lowb]
  try grind
theorem dd_2_2 (E p0 : Nat → Int64) : lpN (detF E 4 2 2) 15 1 (up p0 0 1) 2 = dL (fun i j => E (4 * i + j)) 4 2 2 := by
  simp [lpN, detF, expF, lnf, pop4, up, dL, mz, lowb]
  try grind
theorem dd_2_4 (E p0 : Nat → Int64) : lpN (detF E 4 2 4) 15 1 (up p0 0 1) 4 = dL (fun i j => E (4 * i + j)) 4 2 4 := by
  simp [lpN, detF, expF, lnf, pop4, up, dL, mz, lowb]
  try grind
theorem dd_2_8 (E p0 : Nat → Int64) : lpN (detF E 4 2 8) 15 1 (up p0 0 1) 8 = dL (fun i j => E (4 * i + j)) 4 2 8 := by
  simp [lpN, detF, expF, lnf, pop4, up, dL, mz, lowb]
  try grind
theorem dd_3_3 (E p0 : Nat → Int64) : lpN (detF E 4 3 3) 15 1 (up p0 0 1) 3 = dL (fun i j => E (4 * i + j)) 4 3 3 := by
  simp [lpN, detF, expF, lnf, pop4, up, dL, mz, lowb]
  try grind
theorem dd_3_5 (E p0 : Nat → Int64) : lpN (detF E 4 3 5) 15 1 (up p0 0 1) 5 = dL (fun i j => E (4 * i + j)) 4 3 5 := by
  simp [lpN, detF, expF, lnf, pop4, up, dL, mz, lowb]
  try grind
theorem dd_3_6 (E p0 : Nat → Int64) : lpN (detF E 4 3 6) 15 1 (up p0 0 1) 6 = dL (fun i j => E (4 * i + j)) 4 3 6 := by
  simp [lpN, detF, expF, lnf, pop4, up, dL, mz, lowb]
  try grind
theorem dd_3_9 (E p0 : Nat → Int64) : lpN (detF E 4 3 9) 15 1 (up p0 0 1) 9 = dL (fun i j => E (4 * i + j)) 4 3 9 := by
  simp [lpN, detF, expF, lnf, pop4, up, dL, mz, lowb]
  try grind
theorem dd_3_10 (E p0 : Nat → Int64) : lpN (detF E 4 3 10) 15 1 (up p0 0 1) 10 = dL (fun i j => E (4 * i + j)) 4 3 10 := by
  simp [lpN, detF, expF, lnf, pop4, up, dL, mz, lowb]
  try grind
theorem dd_3_12 (E p0 : Nat → Int64) : lpN (detF E 4 3 12) 15 1 (up p0 0 1) 12 = dL (fun i j => E (4 * i + j)) 4 3 12 := by
  simp [lpN, detF, expF, lnf, pop4, up, dL, mz, lowb]
  try grind
theorem dd_4_1 (E p0 : Nat → Int64) : lpN (detF E 4 4 1) 15 1 (up p0 0 1) 1 = dL (fun i j => E (4 * i + j)) 4 4 1 := by
  simp [lpN, detF, expF, lnf, pop4, up, dL, mz, lowb]
  try grind
theorem dd_4_2 (E p0 : Nat → Int64) : lpN (detF E 4 4 2) 15 1 (up p0 0 1) 2 = dL (fun i j => E (4 * i + j)) 4 4 2 := by
  simp [lpN, detF, expF, lnf, pop4, up, dL, mz, lowb]
  try grind
theorem dd_4_4 (E p0 : Nat → Int64) : lpN (detF E 4 4 4) 15 1 (up p0 0 1) 4 = dL (fun i j => E (4 * i + j)) 4 4 4 := by
  simp [lpN, detF, expF, lnf, pop4, up, dL, mz, lowb]
  try grind
theorem dd_4_8 (E p0 : Nat → Int64) : lpN (detF E 4 4 8) 15 1 (up p0 0 1) 8 = dL (fun i j => E (4 * i + j)) 4 4 8 := by
  simp [lpN, detF, expF, lnf, pop4, up, dL, mz, lowb]
  try grind
theorem dd_5_3 (E p0 : Nat → Int64) : lpN (detF E 4 5 3) 15 1 (up p0 0 1) 3 = dL (fun i j => E (4 * i + j)) 4 5 3 := by
  simp [lpN, detF, expF, lnf, pop4, up, dL, mz, lowb]
  try grind
theorem dd_5_5 (E p0 : Nat → Int64) : lpN (detF E 4 5 5) 15 1 (up p0 0 1) 5 = dL (fun i j => E (4 * i + j)) 4 5 5 := by
  simp [lpN, detF, expF, lnf, pop4, up, dL, mz, lowb]
  try grind
theorem dd_5_6 (E p0 : Nat → Int64) : lpN (detF E 4 5 6) 15 1 (up p0 0 1) 6 = dL (fun i j => E (4 * i + j)) 4 5 6 := by
  simp [lpN, detF, expF, lnf, pop4, up, dL, mz, lowb]
  try grind
theorem dd_5_9 (E p0 : Nat → Int64) : lpN (detF E 4 5 9) 15 1 (up p0 0 1) 9 = dL (fun i j => E (4 * i + j)) 4 5 9 := by
  simp [lpN, detF, expF, lnf, pop4, up, dL, mz, lowb]
  try grind
theorem dd_5_10 (E p0 : Nat → Int64) : lpN (detF E 4 5 10) 15 1 (up p0 0 1) 10 = dL (fun i j => E (4 * i + j)) 4 5 10 := by
  simp [lpN, detF, expF, lnf, pop4, up, dL, mz, lowb]
  try grind
theorem dd_5_12 (E p0 : Nat → Int64) : lpN (detF E 4 5 12) 15 1 (up p0 0 1) 12 = dL (fun i j => E (4 * i + j)) 4 5 12 := by
  simp [lpN, detF, expF, lnf, pop4, up, dL, mz, lowb]
  try grind
theorem dd_6_3 (E p0 : Nat → Int64) : lpN (detF E 4 6 3) 15 1 (up p0 0 1) 3 = dL (fun i j => E (4 * i + j)) 4 6 3 := by
  simp [lpN, detF, expF, lnf, pop4, up, dL, mz, lowb]
  try grind
theorem dd_6_5 (E p0 : Nat → Int64) : lpN (detF E 4 6 5) 15 1 (up p0 0 1) 5 = dL (fun i j => E (4 * i + j)) 4 6 5 := by
  simp [lpN, detF, expF, lnf, pop4, up, dL, mz, lowb]
  try grind
theorem dd_6_6 (E p0 : Nat → Int64) : lpN (detF E 4 6 6) 15 1 (up p0 0 1) 6 = dL (fun i j => E (4 * i + j)) 4 6 6 := by
  simp [lpN, detF, expF, lnf, pop4, up, dL, mz, lowb]
  try grind
theorem dd_6_9 (E p0 : Nat → Int64) : lpN (detF E 4 6 9) 15 1 (up p0 0 1) 9 = dL (fun i j => E (4 * i + j)) 4 6 9 := by
  simp [lpN, detF, expF, lnf, pop4, up, dL, mz, lowb]
  try grind
theorem dd_6_10 (E p0 : Nat → Int64) : lpN (detF E 4 6 10) 15 1 (up p0 0 1) 10 = dL (fun i j => E (4 * i + j)) 4 6 10 := by
  simp [lpN, detF, expF, lnf, pop4, up, dL, mz, lowb]
  try grind
theorem dd_6_12 (E p0 : Nat → Int64) : lpN (detF E 4 6 12) 15 1 (up p0 0 1) 12 = dL (fun i j => E (4 * i + j)) 4 6 12 := by
  simp [lpN, detF, expF, lnf, pop4, up, dL, mz, lowb]
  try grind
theorem dd_7_7 (E p0 : Nat → Int64) : lpN (detF E 4 7 7) 15 1 (up p0 0 1) 7 = dL (fun i j => E (4 * i + j)) 4 7 7 := by
  simp [lpN, detF, expF, lnf, pop4, up, dL, mz, lowb]
  try grind
theorem dd_7_11 (E p0 : Nat → Int64) : lpN (detF E 4 7 11) 15 1 (up p0 0 1) 11 = dL (fun i j => E (4 * i + j)) 4 7 11 := by
  simp [lpN, detF, expF, lnf, pop4, up, dL, mz, lowb]
  try grind
theorem dd_7_13 (E p0 : Nat → Int64) : lpN (detF E 4 7 13) 15 1 (up p0 0 1) 13 = dL (fun i j => E (4 * i + j)) 4 7 13 := by
  simp [lpN, detF, expF, lnf, pop4, up, dL, mz, lowb]
  try grind
theorem dd_7_14 (E p0 : Nat → Int64) : lpN (detF E 4 7 14) 15 1 (up p0 0 1) 14 = dL (fun i j => E (4 * i + j)) 4 7 14 := by
  simp [lpN, detF, expF, lnf, pop4, up, dL, mz, lowb]
  try grind
theorem dd_8_1 (E p0 : Nat → Int64) : lpN (detF E 4 8 1) 15 1 (up p0 0 1) 1 = dL (fun i j => E (4 * i + j)) 4 8 1 := by
  simp [lpN, detF, expF, lnf, pop4, up, dL, mz, lowb]
  try grind
theorem dd_8_2 (E p0 : Nat → Int64) : lpN (detF E 4 8 2) 15 1 (up p0 0 1) 2 = dL (fun i j => E (4 * i + j)) 4 8 2 := by
  simp [lpN, detF, expF, lnf, pop4, up, dL, mz, lowb]
  try grind
theorem dd_8_4 (E p0 : Nat → Int64) : lpN (detF E 4 8 4) 15 1 (up p0 0 1) 4 = dL (fun i j => E (4 * i + j)) 4 8 4 := by
  simp [lpN, detF, expF, lnf, pop4, up, dL, mz, lowb]
  try grind
theorem dd_8_8 (E p0 : Nat → Int64) : lpN (detF E 4 8 8) 15 1 (up p0 0 1) 8 = dL (fun i j => E (4 * i + j)) 4 8 8 := by
  simp [lpN, detF, expF, lnf, pop4, up, dL, mz, lowb]
  try grind
theorem dd_9_3 (E p0 : Nat → Int64) : lpN (detF E 4 9 3) 15 1 (up p0 0 1) 3 = dL (fun i j => E (4 * i + j)) 4 9 3 := by
  simp [lpN, detF, expF, lnf, pop4, up, dL, mz, lowb]
  try grind
theorem dd_9_5 (E p0 : Nat → Int64) : lpN (detF E 4 9 5) 15 1 (up p0 0 1) 5 = dL (fun i j => E (4 * i + j)) 4 9 5 := by
  simp [lpN, detF, expF, lnf, pop4, up, dL, mz, lowb]
  try grind
theorem dd_9_6 (E p0 : Nat → Int64) : lpN (detF E 4 9 6) 15 1 (up p0 0 1) 6 = dL (fun i j => E (4 * i + j)) 4 9 6 := by
  simp [lpN, detF, expF, lnf, pop4, up, dL, mz, lowb]
  try grind
theorem dd_9_9 (E p0 : Nat → Int64) : lpN (detF E 4 9 9) 15 1 (up p0 0 1) 9 = dL (fun i j => E (4 * i + j)) 4 9 9 := by
  simp [lpN, detF, expF, lnf, pop4, up, dL, mz, lowb]
  try grind
theorem dd_9_10 (E p0 : Nat → Int64) : lpN (detF E 4 9 10) 15 1 (up p0 0 1) 10 = dL (fun i j => E (4 * i + j)) 4 9 10 := by
  simp [lpN, detF, expF, lnf, pop4, up, dL, mz, lowb]
  try grind
theorem dd_9_12 (E p0 : Nat → Int64) : lpN (detF E 4 9 12) 15 1 (up p0 0 1) 12 = dL (fun i j => E (4 * i + j)) 4 9 12 := by
  simp [lpN, detF, expF, lnf, pop4, up, dL, mz, lowb]
  try grind
theorem dd_10_3 (E p0 : Nat → Int64) : lpN (detF E 4 10 3) 15 1 (up p0 0 1) 3 = dL (fun i j => E (4 * i + j)) 4 10 3 := by
  simp [lpN, detF, expF, lnf, pop4, up, dL, mz, lowb]
  try grind
theorem dd_10_5 (E p0 : Nat → Int64) : lpN (detF E 4 10 5) 15 1 (up p0 0 1) 5 = dL (fun i j => E (4 * i + j)) 4 10 5 := by
  simp [lpN, detF, expF, lnf, pop4, up, dL, mz, lowb]
  try grind
theorem dd_10_6 (E p0 : Nat → Int64) : lpN (detF E 4 10 6) 15 1 (up p0 0 1) 6 = dL (fun i j => E (4 * i + j)) 4 10 6 := by
  simp [lpN, detF, expF, lnf, pop4, up, dL, mz, lowb]
  try grind
theorem dd_10_9 (E p0 : Nat → Int64) : lpN (detF E 4 10 9) 15 1 (up p0 0 1) 9 = dL (fun i j => E (4 * i + j)) 4 10 9 := by
  simp [lpN, detF, expF, lnf, pop4, up, dL, mz, lowb]
  try grind
theorem dd_10_10 (E p0 : Nat → Int64) : lpN (detF E 4 10 10) 15 1 (up p0 0 1) 10 = dL (fun i j => E (4 * i + j)) 4 10 10 := by
  simp [lpN, detF, expF, lnf, pop4, up, dL, mz, lowb]
  try grind
theorem dd_10_12 (E p0 : Nat → Int64) : lpN (detF E 4 10 12) 15 1 (up p0 0 1) 12 = dL (fun i j => E (4 * i + j)) 4 10 12 := by
  simp [lpN, detF, expF, lnf, pop4, up, dL, mz, lowb]
  try grind
theorem dd_11_7 (E p0 : Nat → Int64) : lpN (detF E 4 11 7) 15 1 (up p0 0 1) 7 = dL (fun i j => E (4 * i + j)) 4 11 7 := by
  simp [lpN, detF, expF, lnf, pop4, up, dL, mz, lowb]
  try grind
theorem dd_11_11 (E p0 : Nat → Int64) : lpN (detF E 4 11 11) 15 1 (up p0 0 1) 11 = dL (fun i j => E (4 * i + j)) 4 11 11 := by
  simp [lpN, detF, expF, lnf, pop4, up, dL, mz, lowb]
  try grind
theorem dd_11_13 (E p0 : Nat → Int64) : lpN (detF E 4 11 13) 15 1 (up p0 0 1) 13 = dL (fun i j => E (4 * i + j)) 4 11 13 := by
  simp [lpN, detF, expF, lnf, pop4, up, dL, mz, lowb]
  try grind
theorem dd_11_14 (E p0 : Nat → Int64) : lpN (detF E 4 11 14) 15 1 (up p0 0 1) 14 = dL (fun i j => E (4 * i + j)) 4 11 14 := by
  simp [lpN, detF, expF, lnf, pop4, up, dL, mz, lowb]
  try grind
theorem dd_12_3 (E p0 : Nat → Int64) : lpN (detF E 4 12 3) 15 1 (up p0 0 1) 3 = dL (fun i j => E (4 * i + j)) 4 12 3 := by
  simp [lpN, detF, expF, lnf, pop4, up, dL, mz, lowb]
  try grind
theorem dd_12_5 (E p0 : Nat → Int64) : lpN (detF E 4 12 5) 15 1 (up p0 0 1) 5 = dL (fun i j => E (4 * i + j)) 4 12 5 := by
  simp [lpN, detF, expF, lnf, pop4, up, dL, mz, lowb]
  try grind
theorem dd_12_6 (E p0 : Nat → Int64) : lpN (detF E 4 12 6) 15 1 (up p0 0 1) 6 = dL (fun i j => E (4 * i + j)) 4 12 6 := by
  simp [lpN, detF, expF, lnf, pop4, up, dL, mz, lowb]
  try grind
theorem dd_12_9 (E p0 : Nat → Int64) : lpN (detF E 4 12 9) 15 1 (up p0 0 1) 9 = dL (fun i j => E (4 * i + j)) 4 12 9 := by
  simp [lpN, detF, expF, lnf, pop4, up, dL, mz, lowb]
  try grind
theorem dd_12_10 (E p0 : Nat → Int64) : lpN (detF E 4 12 10) 15 1 (up p0 0 1) 10 = dL (fun i j => E (4 * i + j)) 4 12 10 := by
  simp [lpN, detF, expF, lnf, pop4, up, dL, mz, lowb]
  try grind
theorem dd_12_12 (E p0 : Nat → Int64) : lpN (detF E 4 12 12) 15 1 (up p0 0 1) 12 = dL (fun i j => E (4 * i + j)) 4 12 12 := by
  simp [lpN, detF, expF, lnf, pop4, up, dL, mz, lowb]
  try grind
theorem dd_13_7 (E p0 : Nat → Int64) : lpN (detF E 4 13 7) 15 1 (up p0 0 1) 7 = dL (fun i j => E (4 * i + j)) 4 13 7 := by
  simp [lpN, detF, expF, lnf, pop4, up, dL, mz, lowb]
  try grind
theorem dd_13_11 (E p0 : Nat → Int64) : lpN (detF E 4 13 11) 15 1 (up p0 0 1) 11 = dL (fun i j => E (4 * i + j)) 4 13 11 := by
  simp [lpN, detF, expF, lnf, pop4, up, dL, mz, lowb]
  try grind
theorem dd_13_13 (E p0 : Nat → Int64) : lpN (detF E 4 13 13) 15 1 (up p0 0 1) 13 = dL (fun i j => E (4 * i + j)) 4 13 13 := by
  simp [lpN, detF, expF, lnf, pop4, up, dL, mz, lowb]
  try grind
theorem dd_13_14 (E p0 : Nat → Int64) : lpN (detF E 4 13 14) 15 1 (up p0 0 1) 14 = dL (fun i j => E (4 * i + j)) 4 13 14 := by
  simp [lpN, detF, expF, lnf, pop4, up, dL, mz, lowb]
  try grind
theorem dd_14_7 (E p0 : Nat → Int64) : lpN (detF E 4 14 7) 15 1 (up p0 0 1) 7 = dL (fun i j => E (4 * i + j)) 4 14 7 := by
  simp [lpN, detF, expF, lnf, pop4, up, dL, mz, lowb]
  try grind
theorem dd_14_11 (E p0 : Nat → Int64) : lpN (detF E 4 14 11) 15 1 (up p0 0 1) 11 = dL (fun i j => E (4 * i + j)) 4 14 11 := by
  simp [lpN, detF, expF, lnf, pop4, up, dL, mz, lowb]
  try grind
theorem dd_14_13 (E p0 : Nat → Int64) : lpN (detF E 4 14 13) 15 1 (up p0 0 1) 13 = dL (fun i j => E (4 * i + j)) 4 14 13 := by
  simp [lpN, detF, expF, lnf, pop4, up, dL, mz, lowb]
  try grind
theorem dd_14_14 (E p0 : Nat → Int64) : lpN (detF E 4 14 14) 15 1 (up p0 0 1) 14 = dL (fun i j => E (4 * i + j)) 4 14 14 := by
  simp [lpN, detF, expF, lnf, pop4, up, dL, mz, lowb]
  try grind
theorem dd_15_15 (E p0 : Nat → Int64) : lpN (detF E 4 15 15) 15 1 (up p0 0 1) 15 = dL (fun i j => E (4 * i + j)) 4 15 15 := by
  simp [lpN, detF, expF, lnf, pop4, up, dL, mz, lowb]
  try grind
theorem dd_all (E p0 : Nat → Int64) {R C : Nat} (hR : R < 16) (hC : C < 16) (h : pop4 R = pop4 C) : lpN (detF E 4 R C) 15 1 (up p0 0 1) C = dL (fun i j => E (4 * i + j)) 4 R C := by
  rcases (show R = 0 ∨ R = 1 ∨ R = 2 ∨ R = 3 ∨ R = 4 ∨ R = 5 ∨ R = 6 ∨ R = 7 ∨ R = 8 ∨ R = 9 ∨ R = 10 ∨ R = 11 ∨ R = 12 ∨ R = 13 ∨ R = 14 ∨ R = 15 by omega) with rfl | rfl | rfl | rfl | rfl | rfl | rfl | rfl | rfl | rfl | rfl | rfl | rfl | rfl | rfl | rfl
  · rcases (show C = 0 ∨ C = 1 ∨ C = 2 ∨ C = 3 ∨ C = 4 ∨ C = 5 ∨ C = 6 ∨ C = 7 ∨ C = 8 ∨ C = 9 ∨ C = 10 ∨ C = 11 ∨ C = 12 ∨ C = 13 ∨ C = 14 ∨ C = 15 by omega) with rfl | rfl | rfl | rfl | rfl | rfl | rfl | rfl | rfl | rfl | rfl | rfl | rfl | rfl | rfl | rfl
    · exact dd_0_0 E p0
    · exact absurd h (by decide)
    · exact absurd h (by decide)
    · exact absurd h (by decide)
    · exact absurd h (by decide)
    · exact absurd h (by decide)
    · exact absurd h (by decide)
    · exact absurd h (by decide)
    · exact absurd h (by decide)
    · exact absurd h (by decide)
    · exact absurd h (by decide)
    · exact absurd h (by decide)
    · exact absurd h (by decide)
    · exact absurd h (by decide)
    · exact absurd h (by decide)
    · exact absurd h (by decide)
  · rcases (show C = 0 ∨ C = 1 ∨ C = 2 ∨ C = 3 ∨ C = 4 ∨ C = 5 ∨ C = 6 ∨ C = 7 ∨ C = 8 ∨ C = 9 ∨ C = 10 ∨ C = 11 ∨ C = 12 ∨ C = 13 ∨ C = 14 ∨ C = 15 by omega) with rfl | rfl | rfl | rfl | rfl | rfl | rfl | rfl | rfl | rfl | rfl | rfl | rfl | rfl | rfl | rfl
    · exact absurd h (by decide)
    · exact dd_1_1 E p0
    · exact dd_1_2 E p0
    · exact absurd h (by decide)
    · exact dd_1_4 E p0
    · exact absurd h (by decide)
    · exact absurd h (by decide)
    · exact absurd h (by decide)
    · exact dd_1_8 E p0
    · exact absurd h (by decide)
    · exact absurd h (by decide)
    · exact absurd h (by decide)
    · exact absurd h (by decide)
    · exact absurd h (by decide)
    · exact absurd h (by decide)
    · exact absurd h (by decide)
  · rcases (show C = 0 ∨ C = 1 ∨ C = 2 ∨ C = 3 ∨ C = 4 ∨ C = 5 ∨ C = 6 ∨ C = 7 ∨ C = 8 ∨ C = 9 ∨ C = 10 ∨ C = 11 ∨ C = 12 ∨ C = 13 ∨ C = 14 ∨ C = 15 by omega) with rfl | rfl | rfl | rfl | rfl | rfl | rfl | rfl | rfl | rfl | rfl | rfl | rfl | rfl | rfl | rfl
    · exact absurd h (by decide)
    · exact dd_2_1 E p0
    · exact dd_2_2 E p0
    · exact absurd h (by decide)
    · exact dd_2_4 E p0
    · exact absurd h (by decide)
    · exact absurd h (by decide)
    · exact absurd h (by decide)
    · exact dd_2_8 E p0
    · exact absurd h (by decide)
    · exact absurd h (by decide)
    · exact absurd h (by decide)
    · exact absurd h (by decide)
    · exact absurd h (by decide)
    · exact absurd h (by decide)
    · exact absurd h (by decide)
  · rcases (show C = 0 ∨ C = 1 ∨ C = 2 ∨ C = 3 ∨ C = 4 ∨ C = 5 ∨ C = 6 ∨ C = 7 ∨ C = 8 ∨ C = 9 ∨ C = 10 ∨ C = 11 ∨ C = 12 ∨ C = 13 ∨ C = 14 ∨ C = 15 by omega) with rfl | rfl | rfl | rfl | rfl | rfl | rfl | rfl | rfl | rfl | rfl | rfl | rfl | rfl | rfl | rfl
    · exact absurd h (by decide)
    · exact absurd h (by decide)
    · exact absurd h (by decide)
    · exact dd_3_3 E p0
    · exact absurd h (by decide)
    · exact dd_3_5 E p0
    · exact dd_3_6 E p0
    · exact absurd h (by decide)
    · exact absurd h (by decide)
    · exact dd_3_9 E p0
    · exact dd_3_10 E p0
    · exact absurd h (by decide)
    · exact dd_3_12 E p0
    · exact absurd h (by decide)
    · exact absurd h (by decide)
    · exact absurd h (by decide)
  · rcases (show C = 0 ∨ C = 1 ∨ C = 2 ∨ C = 3 ∨ C = 4 ∨ C = 5 ∨ C = 6 ∨ C = 7 ∨ C = 8 ∨ C = 9 ∨ C = 10 ∨ C = 11 ∨ C = 12 ∨ C = 13 ∨ C = 14 ∨ C = 15 by omega) with rfl | rfl | rfl | rfl | rfl | rfl | rfl | rfl | rfl | rfl | rfl | rfl | rfl | rfl | rfl | rfl
    · exact absurd h (by decide)
    · exact dd_4_1 E p0
    · exact dd_4_2 E p0
    · exact absurd h (by decide)
    · exact dd_4_4 E p0
    · exact absurd h (by decide)
    · exact absurd h (by decide)
    · exact absurd h (by decide)
    · exact dd_4_8 E p0
    · exact absurd h (by decide)
    · exact absurd h (by decide)
    · exact absurd h (by decide)
    · exact absurd h (by decide)
    · exact absurd h (by decide)
    · exact absurd h (by decide)
    · exact absurd h (by decide)
  · rcases (show C = 0 ∨ C = 1 ∨ C = 2 ∨ C = 3 ∨ C = 4 ∨ C = 5 ∨ C = 6 ∨ C = 7 ∨ C = 8 ∨ C = 9 ∨ C = 10 ∨ C = 11 ∨ C = 12 ∨ C = 13 ∨ C = 14 ∨ C = 15 by omega) with rfl | rfl | rfl | rfl | rfl | rfl | rfl | rfl | rfl | rfl | rfl | rfl | rfl | rfl | rfl | rfl
    · exact absurd h (by decide)
    · exact absurd h (by decide)
    · exact absurd h (by decide)
    · exact dd_5_3 E p0
    · exact absurd h (by decide)
    · exact dd_5_5 E p0
    · exact dd_5_6 E p0
    · exact absurd h (by decide)
    · exact absurd h (by decide)
    · exact dd_5_9 E p0
    · exact dd_5_10 E p0
    · exact absurd h (by decide)
    · exact dd_5_12 E p0
    · exact absurd h (by decide)
    · exact absurd h (by decide)
    · exact absurd h (by decide)
  · rcases (show C = 0 ∨ C = 1 ∨ C = 2 ∨ C = 3 ∨ C = 4 ∨ C = 5 ∨ C = 6 ∨ C = 7 ∨ C = 8 ∨ C = 9 ∨ C = 10 ∨ C = 11 ∨ C = 12 ∨ C = 13 ∨ C = 14 ∨ C = 15 by omega) with rfl | rfl | rfl | rfl | rfl | rfl | rfl | rfl | rfl | rfl | rfl | rfl | rfl | rfl | rfl | rfl
    · exact absurd h (by decide)
    · exact absurd h (by decide)
    · exact absurd h (by decide)
    · exact dd_6_3 E p0
    · exact absurd h (by decide)
    · exact dd_6_5 E p0
    · exact dd_6_6 E p0
    · exact absurd h (by decide)
    · exact absurd h (by decide)
    · exact dd_6_9 E p0
    · exact dd_6_10 E p0
    · exact absurd h (by decide)
    · exact dd_6_12 E p0
    · exact absurd h (by decide)
    · exact absurd h (by decide)
    · exact absurd h (by decide)
  · rcases (show C = 0 ∨ C = 1 ∨ C = 2 ∨ C = 3 ∨ C = 4 ∨ C = 5 ∨ C = 6 ∨ C = 7 ∨ C = 8 ∨ C = 9 ∨ C = 10 ∨ C = 11 ∨ C = 12 ∨ C = 13 ∨ C = 14 ∨ C = 15 by omega) with rfl | rfl | rfl | rfl | rfl | rfl | rfl | rfl | rfl | rfl | rfl | rfl | rfl | rfl | rfl | rfl
    · exact absurd h (by decide)
    · exact absurd h (by decide)
    · exact absurd h (by decide)
    · exact absurd h (by decide)
    · exact absurd h (by decide)
    · exact absurd h (by decide)
    · exact absurd h (by decide)
    · exact dd_7_7 E p0
    · exact absurd h (by decide)
    · exact absurd h (by decide)
    · exact absurd h (by decide)
    · exact dd_7_11 E p0
    · exact absurd h (by decide)
    · exact dd_7_13 E p0
    · exact dd_7_14 E p0
    · exact absurd h (by decide)
  · rcases (show C = 0 ∨ C = 1 ∨ C = 2 ∨ C = 3 ∨ C = 4 ∨ C = 5 ∨ C = 6 ∨ C = 7 ∨ C = 8 ∨ C = 9 ∨ C = 10 ∨ C = 11 ∨ C = 12 ∨ C = 13 ∨ C = 14 ∨ C = 15 by omega) with rfl | rfl | rfl | rfl | rfl | rfl | rfl | rfl | rfl | rfl | rfl | rfl | rfl | rfl | rfl | rfl
    · exact absurd h (by decide)
    · exact dd_8_1 E p0
    · exact dd_8_2 E p0
    · exact absurd h (by decide)
    · exact dd_8_4 E p0
    · exact absurd h (by decide)
    · exact absurd h (by decide)
    · exact absurd h (by decide)
    · exact dd_8_8 E p0
    · exact absurd h (by decide)
    · exact absurd h (by decide)
    · exact absurd h (by decide)
    · exact absurd h (by decide)
    · exact absurd h (by decide)
    · exact absurd h (by decide)
    · exact absurd h (by decide)
  · rcases (show C = 0 ∨ C = 1 ∨ C = 2 ∨ C = 3 ∨ C = 4 ∨ C = 5 ∨ C = 6 ∨ C = 7 ∨ C = 8 ∨ C = 9 ∨ C = 10 ∨ C = 11 ∨ C = 12 ∨ C = 13 ∨ C = 14 ∨ C = 15 by omega) with rfl | rfl | rfl | rfl | rfl | rfl | rfl | rfl | rfl | rfl | rfl | rfl | rfl | rfl | rfl | rfl
    · exact absurd h (by decide)
    · exact absurd h (by decide)
    · exact absurd h (by decide)
    · exact dd_9_3 E p0
    · exact absurd h (by decide)
    · exact dd_9_5 E p0
    · exact dd_9_6 E p0
    · exact absurd h (by decide)
    · exact absurd h (by decide)
    · exact dd_9_9 E p0
    · exact dd_9_10 E p0
    · exact absurd h (by decide)
    · exact dd_9_12 E p0
    · exact absurd h (by decide)
    · exact absurd h (by decide)
    · exact absurd h (by decide)
  · rcases (show C = 0 ∨ C = 1 ∨ C = 2 ∨ C = 3 ∨ C = 4 ∨ C = 5 ∨ C = 6 ∨ C = 7 ∨ C = 8 ∨ C = 9 ∨ C = 10 ∨ C = 11 ∨ C = 12 ∨ C = 13 ∨ C = 14 ∨ C = 15 by omega) with rfl | rfl | rfl | rfl | rfl | rfl | rfl | rfl | rfl | rfl | rfl | rfl | rfl | rfl | rfl | rfl
    · exact absurd h (by decide)
    · exact absurd h (by decide)
    · exact absurd h (by decide)
    · exact dd_10_3 E p0
    · exact absurd h (by decide)
    · exact dd_10_5 E p0
    · exact dd_10_6 E p0
    · exact absurd h (by decide)
    · exact absurd h (by decide)
    · exact dd_10_9 E p0
    · exact dd_10_10 E p0
    · exact absurd h (by decide)
    · exact dd_10_12 E p0
    · exact absurd h (by decide)
    · exact absurd h (by decide)
    · exact absurd h (by decide)
  · rcases (show C = 0 ∨ C = 1 ∨ C = 2 ∨ C = 3 ∨ C = 4 ∨ C = 5 ∨ C = 6 ∨ C = 7 ∨ C = 8 ∨ C = 9 ∨ C = 10 ∨ C = 11 ∨ C = 12 ∨ C = 13 ∨ C = 14 ∨ C = 15 by omega) with rfl | rfl | rfl | rfl | rfl | rfl | rfl | rfl | rfl | rfl | rfl | rfl | rfl | rfl | rfl | rfl
    · exact absurd h (by decide)
    · exact absurd h (by decide)
    · exact absurd h (by decide)
    · exact absurd h (by decide)
    · exact absurd h (by decide)
    · exact absurd h (by decide)
    · exact absurd h (by decide)
    · exact dd_11_7 E p0
    · exact absurd h (by decide)
    · exact absurd h (by decide)
    · exact absurd h (by decide)
    · exact dd_11_11 E p0
    · exact absurd h (by decide)
    · exact dd_11_13 E p0
    · exact dd_11_14 E p0
    · exact absurd h (by decide)
  · rcases (show C = 0 ∨ C = 1 ∨ C = 2 ∨ C = 3 ∨ C = 4 ∨ C = 5 ∨ C = 6 ∨ C = 7 ∨ C = 8 ∨ C = 9 ∨ C = 10 ∨ C = 11 ∨ C = 12 ∨ C = 13 ∨ C = 14 ∨ C = 15 by omega) with rfl | rfl | rfl | rfl | rfl | rfl | rfl | rfl | rfl | rfl | rfl | rfl | rfl | rfl | rfl | rfl
    · exact absurd h (by decide)
    · exact absurd h (by decide)
    · exact absurd h (by decide)
    · exact dd_12_3 E p0
    · exact absurd h (by decide)
    · exact dd_12_5 E p0
    · exact dd_12_6 E p0
    · exact absurd h (by decide)
    · exact absurd h (by decide)
    · exact dd_12_9 E p0
    · exact dd_12_10 E p0
    · exact absurd h (by decide)
    · exact dd_12_12 E p0
    · exact absurd h (by decide)
    · exact absurd h (by decide)
    · exact absurd h (by decide)
  · rcases (show C = 0 ∨ C = 1 ∨ C = 2 ∨ C = 3 ∨ C = 4 ∨ C = 5 ∨ C = 6 ∨ C = 7 ∨ C = 8 ∨ C = 9 ∨ C = 10 ∨ C = 11 ∨ C = 12 ∨ C = 13 ∨ C = 14 ∨ C = 15 by omega) with rfl | rfl | rfl | rfl | rfl | rfl | rfl | rfl | rfl | rfl | rfl | rfl | rfl | rfl | rfl | rfl
    · exact absurd h (by decide)
    · exact absurd h (by decide)
    · exact absurd h (by decide)
    · exact absurd h (by decide)
    · exact absurd h (by decide)
    · exact absurd h (by decide)
    · exact absurd h (by decide)
    · exact dd_13_7 E p0
    · exact absurd h (by decide)
    · exact absurd h (by decide)
    · exact absurd h (by decide)
    · exact dd_13_11 E p0
    · exact absurd h (by decide)
    · exact dd_13_13 E p0
    · exact dd_13_14 E p0
    · exact absurd h (by decide)
  · rcases (show C = 0 ∨ C = 1 ∨ C = 2 ∨ C = 3 ∨ C = 4 ∨ C = 5 ∨ C = 6 ∨ C = 7 ∨ C = 8 ∨ C = 9 ∨ C = 10 ∨ C = 11 ∨ C = 12 ∨ C = 13 ∨ C = 14 ∨ C = 15 by omega) with rfl | rfl | rfl | rfl | rfl | rfl | rfl | rfl | rfl | rfl | rfl | rfl | rfl | rfl | rfl | rfl
    · exact absurd h (by decide)
    · exact absurd h (by decide)
    · exact absurd h (by decide)
    · exact absurd h (by decide)
    · exact absurd h (by decide)
    · exact absurd h (by decide)
    · exact absurd h (by decide)
    · exact dd_14_7 E p0
    · exact absurd h (by decide)
    · exact absurd h (by decide)
    · exact absurd h (by decide)
    · exact dd_14_11 E p0
    · exact absurd h (by decide)
    · exact dd_14_13 E p0
    · exact dd_14_14 E p0
    · exact absurd h (by decide)
  · rcases (show C = 0 ∨ C = 1 ∨ C = 2 ∨ C = 3 ∨ C = 4 ∨ C = 5 ∨ C = 6 ∨ C = 7 ∨ C = 8 ∨ C = 9 ∨ C = 10 ∨ C = 11 ∨ C = 12 ∨ C = 13 ∨ C = 14 ∨ C = 15 by omega) with rfl | rfl | rfl | rfl | rfl | rfl | rfl | rfl | rfl | rfl | rfl | rfl | rfl | rfl | rfl | rfl
    · exact absurd h (by decide)
    · exact absurd h (by decide)
    · exact absurd h (by decide)
    · exact absurd h (by decide)
    · exact absurd h (by decide)
    · exact absurd h (by decide)
    · exact absurd h (by decide)
    · exact absurd h (by decide)
    · exact absurd h (by decide)
    · exact absurd h (by decide)
    · exact absurd h (by decide)
    · exact absurd h (by decide)
    · exact absurd h (by decide)
    · exact absurd h (by decide)
    · exact absurd h (by decide)
    · exact dd_15_15 E p0
theorem lpN_congr {σ : Type} {F G : Nat → σ → σ} : ∀ (m j : Nat) (s : σ), (∀ k, j ≤ k → k < j + m → ∀ s, F k s = G k s) → lpN F m j s = lpN G m j s
  | 0, _, _, _ => rfl
  | m + 1, j, s, h => by
    rw [lpN, lpN, h j (Nat.le_refl _) (by omega)]
    exact lpN_congr m (j + 1) _ (fun k h1 h2 => h k (by omega) (by omega))
theorem lpN_id {σ : Type} {F : Nat → σ → σ} : ∀ (m j : Nat) (s : σ), (∀ k, j ≤ k → k < j + m → ∀ s, F k s = s) → lpN F m j s = s
  | 0, _, _, _ => rfl
  | m + 1, j, s, h => by
    rw [lpN, h j (Nat.le_refl _) (by omega)]
    exact lpN_id m (j + 1) s (fun k h1 h2 => h k (by omega) (by omega))
theorem lpN_add {σ : Type} {F : Nat → σ → σ} : ∀ (m m2 j : Nat) (s : σ), lpN F (m + m2) j s = lpN F m2 (j + m) (lpN F m j s)
  | 0, m2, j, s => by rw [Nat.zero_add]; rfl
  | m + 1, m2, j, s => by
    rw [show m + 1 + m2 = (m + m2) + 1 by omega, lpN, lpN_add m m2 (j + 1) (F j s), lpN, show j + 1 + m = j + (m + 1) by omega]
theorem fin_sub2 : (List.range 5).all (fun n => (List.range 16).all (fun t => (List.range 16).all (fun C => decide (C < 2 ^ n → t &&& (15 ^^^ C) = 0 → t < 2 ^ n ∧ (List.range 4).all (fun c => decide (n ≤ c → t / 2 ^ c % 2 = 0)) = true)))) = true := by decide +kernel
theorem t_sub2 {n t C : Nat} (hn : n ≤ 4) (ht : t < 16) (hC : C < 2 ^ n) (hs : t &&& (15 ^^^ C) = 0) : t < 2 ^ n ∧ ∀ c, c < 4 → n ≤ c → t / 2 ^ c % 2 = 0 := by
  have hp : 2 ^ n ≤ 2 ^ 4 := Nat.pow_le_pow_right (by omega) hn
  have := of_decide_eq_true (List.all_eq_true.mp (List.all_eq_true.mp (List.all_eq_true.mp fin_sub2 n (List.mem_range.mpr (by omega))) t (List.mem_range.mpr ht)) C (List.mem_range.mpr (by omega))) hC hs
  exact ⟨this.1, fun c hc => of_decide_eq_true (List.all_eq_true.mp this.2 c (List.mem_range.mpr hc))⟩
theorem det_n {E : Nat → Int64} {n R C : Nat} {f : Nat → Int64} (hn : n ≤ 4) (hR : R < 2 ^ n) (hC : C < 2 ^ n) (h : pop4 R = pop4 C) : lpN (detF E n R C) 15 1 f = lpN (detF E 4 R C) 15 1 f := by
  have hp : 2 ^ n ≤ 2 ^ 4 := Nat.pow_le_pow_right (by omega) hn
  apply lpN_congr
  intro t h1 h2 g
  unfold detF
  by_cases hs : t &&& (15 ^^^ C) = 0
  · rw [if_pos hs, if_pos hs]
    obtain ⟨t3, t4⟩ := (t_pop (t := t) (C := C) (by omega) (by omega)).1 hs
    obtain ⟨l1, l2⟩ := t_lnf hn hR (t4 (by omega)) (show pop4 t ≤ pop4 R by omega)
    obtain ⟨s1, s2⟩ := t_sub2 hn (by omega) hC hs
    rw [← l2]
    have e4 : lpN (expF E g (lnf R (pop4 t) n 0 0) t) 4 0 0 = lpN (expF E g (lnf R (pop4 t) n 0 0) t) n 0 0 := by
      have := lpN_add (F := expF E g (lnf R (pop4 t) n 0 0) t) n (4 - n) 0 0
      rw [show n + (4 - n) = 4 by omega] at this
      rw [this]
      apply lpN_id
      intro c hc1 hc2 s
      unfold expF
      rw [if_neg]
      rw [s2 c (by omega) (by omega)]
      decide
    rw [e4]
  · rw [if_neg hs, if_neg hs]
/-- the number that both sides tell of a minor -/
def mnr (E : Nat → Int64) (R C : Nat) : Int64 := dL (fun i j => E (4 * i + j)) 4 R C
theorem c_det {S : Cl} {τ : Nat → Int32} {A : Nat → Nat → Int32} {B : Nat → Nat → Int64} {d g n : Nat} {Q : Option Value → Hp → Prop} (hg : (lkp tabG g).isSome = true) (hn : τ (100 * g + 2) = nI n) (h4 : n ≤ 4) {R C : Nat} (hR : R < 2 ^ n) (hC : C < 2 ^ n) (hRC : pop4 R = pop4 C) (q : ∀ f, Q (some (.long (mnr (B (g + 1)) R C))) (HH S τ A (up B (g + 2) f))) : CC (d + 2) M_Grid_determinant [.ref g, .int (nI R), .int (nI C)] (HH S τ A B) Q := by
  have hp : 2 ^ n ≤ 2 ^ 4 := Nat.pow_le_pow_right (by omega) h4
  refine c_detG hg hn h4 hR hC hRC (fun f hf => ?_)
  have := q f
  unfold mnr at this
  rw [← dd_all (B (g + 1)) (B (g + 2)) (by omega) (by omega) hRC, ← det_n h4 hR hC hRC, ← hf] at this
  exact this
