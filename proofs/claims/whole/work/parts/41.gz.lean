/-! whole numbers: minors, and the few that tell of all -/
def mzZ (E : Nat → Nat → Int) (rc : Nat → Int) (i C : Nat) : Nat → Nat → Int → Int
  | 0, _, _ => 0
  | m + 1, j, sg => if C / 2 ^ j % 2 = 1 then sg * E i j * rc j + mzZ E rc i C m (j + 1) (-sg) else mzZ E rc i C m (j + 1) sg
def dZ (E : Nat → Nat → Int) : Nat → Nat → Nat → Int
  | 0, _, _ => 1
  | f + 1, R, C => if R = 0 then 1 else mzZ E (fun j => dZ E f (R ^^^ 2 ^ lowb R) (C ^^^ 2 ^ j)) (lowb R) C 4 0 1
def mnz (E : Nat → Int) (R C : Nat) : Int := dZ (fun i j => E (4 * i + j)) 4 R C
theorem mnz_0 (E : Nat → Int) : mnz E 0 0 = 1 := rfl
theorem gz_pos {a x b c d e : Int} (h : a * x = b * c + d * e) (hx : 0 < x) (hb : 0 < b) (hc : 0 < c) (hd : 0 < d) (he : 0 < e) : 0 < a := by
  have h1 := Int.mul_pos hb hc
  have h2 := Int.mul_pos hd he
  by_cases ha : 0 < a
  · exact ha
  · have h3 : a * x ≤ 0 := Int.mul_nonpos_of_nonpos_of_nonneg (by omega) (by omega)
    omega
theorem gz_0 (E : Nat → Int) : mnz E 2 2 * mnz E 1 1 = mnz E 1 2 * mnz E 2 1 + mnz E 0 0 * mnz E 3 3 := by
  simp [mnz, dZ, mzZ, lowb]
  try grind
theorem gz_1 (E : Nat → Int) : mnz E 2 4 * mnz E 1 2 = mnz E 0 0 * mnz E 3 6 + mnz E 1 4 * mnz E 2 2 := by
  simp [mnz, dZ, mzZ, lowb]
  try grind
theorem gz_2 (E : Nat → Int) : mnz E 4 2 * mnz E 2 1 = mnz E 0 0 * mnz E 6 3 + mnz E 2 2 * mnz E 4 1 := by
  simp [mnz, dZ, mzZ, lowb]
  try grind
theorem gz_3 (E : Nat → Int) : mnz E 3 5 * mnz E 1 2 = mnz E 1 1 * mnz E 3 6 + mnz E 1 4 * mnz E 3 3 := by
  simp [mnz, dZ, mzZ, lowb]
  try grind
theorem gz_4 (E : Nat → Int) : mnz E 5 3 * mnz E 2 1 = mnz E 1 1 * mnz E 6 3 + mnz E 3 3 * mnz E 4 1 := by
  simp [mnz, dZ, mzZ, lowb]
  try grind
theorem gz_5 (E : Nat → Int) : mnz E 5 5 * mnz E 3 3 = mnz E 7 7 * mnz E 1 1 + mnz E 5 3 * mnz E 3 5 := by
  simp [mnz, dZ, mzZ, lowb]
  try grind
theorem gz_6 (E : Nat → Int) : mnz E 4 4 * mnz E 1 1 = mnz E 5 5 * mnz E 0 0 + mnz E 1 4 * mnz E 4 1 := by
  simp [mnz, dZ, mzZ, lowb]
  try grind
theorem gz_7 (E : Nat → Int) : mnz E 5 6 * mnz E 3 3 = mnz E 1 2 * mnz E 7 7 + mnz E 3 6 * mnz E 5 3 := by
  simp [mnz, dZ, mzZ, lowb]
  try grind
theorem gz_8 (E : Nat → Int) : mnz E 6 5 * mnz E 3 3 = mnz E 2 1 * mnz E 7 7 + mnz E 6 3 * mnz E 3 5 := by
  simp [mnz, dZ, mzZ, lowb]
  try grind
theorem gz_9 (E : Nat → Int) : mnz E 6 6 * mnz E 3 3 = mnz E 2 2 * mnz E 7 7 + mnz E 3 6 * mnz E 6 3 := by
  simp [mnz, dZ, mzZ, lowb]
  try grind
theorem gz_10 (E : Nat → Int) : mnz E 2 8 * mnz E 1 4 = mnz E 3 12 * mnz E 0 0 + mnz E 2 4 * mnz E 1 8 := by
  simp [mnz, dZ, mzZ, lowb]
  try grind
theorem gz_11 (E : Nat → Int) : mnz E 8 2 * mnz E 4 1 = mnz E 4 2 * mnz E 8 1 + mnz E 12 3 * mnz E 0 0 := by
  simp [mnz, dZ, mzZ, lowb]
  try grind
theorem gz_12 (E : Nat → Int) : mnz E 3 9 * mnz E 2 4 = mnz E 2 8 * mnz E 3 5 + mnz E 3 12 * mnz E 2 1 := by
  simp [mnz, dZ, mzZ, lowb]
  try grind
theorem gz_13 (E : Nat → Int) : mnz E 3 10 * mnz E 2 4 = mnz E 2 2 * mnz E 3 12 + mnz E 2 8 * mnz E 3 6 := by
  simp [mnz, dZ, mzZ, lowb]
  try grind
theorem gz_14 (E : Nat → Int) : mnz E 5 10 * mnz E 3 6 = mnz E 3 10 * mnz E 5 6 + mnz E 1 2 * mnz E 7 14 := by
  simp [mnz, dZ, mzZ, lowb]
  try grind
theorem gz_15 (E : Nat → Int) : mnz E 4 8 * mnz E 1 2 = mnz E 5 10 * mnz E 0 0 + mnz E 4 2 * mnz E 1 8 := by
  simp [mnz, dZ, mzZ, lowb]
  try grind
theorem gz_16 (E : Nat → Int) : mnz E 5 9 * mnz E 4 2 = mnz E 5 10 * mnz E 4 1 + mnz E 4 8 * mnz E 5 3 := by
  simp [mnz, dZ, mzZ, lowb]
  try grind
theorem gz_17 (E : Nat → Int) : mnz E 5 12 * mnz E 3 10 = mnz E 5 10 * mnz E 3 12 + mnz E 1 8 * mnz E 7 14 := by
  simp [mnz, dZ, mzZ, lowb]
  try grind
theorem gz_18 (E : Nat → Int) : mnz E 6 10 * mnz E 5 6 = mnz E 5 10 * mnz E 6 6 + mnz E 4 2 * mnz E 7 14 := by
  simp [mnz, dZ, mzZ, lowb]
  try grind
theorem gz_19 (E : Nat → Int) : mnz E 6 9 * mnz E 2 2 = mnz E 2 8 * mnz E 6 3 + mnz E 2 1 * mnz E 6 10 := by
  simp [mnz, dZ, mzZ, lowb]
  try grind
theorem gz_20 (E : Nat → Int) : mnz E 6 12 * mnz E 3 10 = mnz E 2 8 * mnz E 7 14 + mnz E 3 12 * mnz E 6 10 := by
  simp [mnz, dZ, mzZ, lowb]
  try grind
theorem gz_21 (E : Nat → Int) : mnz E 9 3 * mnz E 4 2 = mnz E 12 3 * mnz E 1 2 + mnz E 5 3 * mnz E 8 2 := by
  simp [mnz, dZ, mzZ, lowb]
  try grind
theorem gz_22 (E : Nat → Int) : mnz E 10 3 * mnz E 4 2 = mnz E 2 2 * mnz E 12 3 + mnz E 8 2 * mnz E 6 3 := by
  simp [mnz, dZ, mzZ, lowb]
  try grind
theorem gz_23 (E : Nat → Int) : mnz E 10 5 * mnz E 6 3 = mnz E 14 7 * mnz E 2 1 + mnz E 10 3 * mnz E 6 5 := by
  simp [mnz, dZ, mzZ, lowb]
  try grind
theorem gz_24 (E : Nat → Int) : mnz E 8 4 * mnz E 2 1 = mnz E 2 4 * mnz E 8 1 + mnz E 10 5 * mnz E 0 0 := by
  simp [mnz, dZ, mzZ, lowb]
  try grind
theorem gz_25 (E : Nat → Int) : mnz E 9 5 * mnz E 2 4 = mnz E 10 5 * mnz E 1 4 + mnz E 3 5 * mnz E 8 4 := by
  simp [mnz, dZ, mzZ, lowb]
  try grind
theorem gz_26 (E : Nat → Int) : mnz E 10 6 * mnz E 6 5 = mnz E 14 7 * mnz E 2 4 + mnz E 10 5 * mnz E 6 6 := by
  simp [mnz, dZ, mzZ, lowb]
  try grind
theorem gz_27 (E : Nat → Int) : mnz E 9 6 * mnz E 2 2 = mnz E 10 6 * mnz E 1 2 + mnz E 3 6 * mnz E 8 2 := by
  simp [mnz, dZ, mzZ, lowb]
  try grind
theorem gz_28 (E : Nat → Int) : mnz E 12 5 * mnz E 10 3 = mnz E 14 7 * mnz E 8 1 + mnz E 12 3 * mnz E 10 5 := by
  simp [mnz, dZ, mzZ, lowb]
  try grind
theorem gz_29 (E : Nat → Int) : mnz E 12 6 * mnz E 10 3 = mnz E 14 7 * mnz E 8 2 + mnz E 10 6 * mnz E 12 3 := by
  simp [mnz, dZ, mzZ, lowb]
  try grind
theorem gz_30 (E : Nat → Int) : mnz E 7 11 * mnz E 5 6 = mnz E 5 10 * mnz E 7 7 + mnz E 5 3 * mnz E 7 14 := by
  simp [mnz, dZ, mzZ, lowb]
  try grind
theorem gz_31 (E : Nat → Int) : mnz E 7 13 * mnz E 3 10 = mnz E 3 9 * mnz E 7 14 + mnz E 3 12 * mnz E 7 11 := by
  simp [mnz, dZ, mzZ, lowb]
  try grind
theorem gz_32 (E : Nat → Int) : mnz E 11 7 * mnz E 6 5 = mnz E 14 7 * mnz E 3 5 + mnz E 7 7 * mnz E 10 5 := by
  simp [mnz, dZ, mzZ, lowb]
  try grind
theorem gz_33 (E : Nat → Int) : mnz E 11 11 * mnz E 7 7 = mnz E 3 3 * mnz E 15 15 + mnz E 11 7 * mnz E 7 11 := by
  simp [mnz, dZ, mzZ, lowb]
  try grind
theorem gz_34 (E : Nat → Int) : mnz E 9 9 * mnz E 3 3 = mnz E 11 11 * mnz E 1 1 + mnz E 3 9 * mnz E 9 3 := by
  simp [mnz, dZ, mzZ, lowb]
  try grind
theorem gz_35 (E : Nat → Int) : mnz E 8 8 * mnz E 1 1 = mnz E 1 8 * mnz E 8 1 + mnz E 0 0 * mnz E 9 9 := by
  simp [mnz, dZ, mzZ, lowb]
  try grind
theorem gz_36 (E : Nat → Int) : mnz E 9 10 * mnz E 3 3 = mnz E 3 10 * mnz E 9 3 + mnz E 11 11 * mnz E 1 2 := by
  simp [mnz, dZ, mzZ, lowb]
  try grind
theorem gz_37 (E : Nat → Int) : mnz E 10 9 * mnz E 3 3 = mnz E 10 3 * mnz E 3 9 + mnz E 11 11 * mnz E 2 1 := by
  simp [mnz, dZ, mzZ, lowb]
  try grind
theorem gz_38 (E : Nat → Int) : mnz E 10 10 * mnz E 3 3 = mnz E 3 10 * mnz E 10 3 + mnz E 2 2 * mnz E 11 11 := by
  simp [mnz, dZ, mzZ, lowb]
  try grind
theorem gz_39 (E : Nat → Int) : mnz E 11 13 * mnz E 7 7 = mnz E 7 13 * mnz E 11 7 + mnz E 15 15 * mnz E 3 5 := by
  simp [mnz, dZ, mzZ, lowb]
  try grind
theorem gz_40 (E : Nat → Int) : mnz E 9 12 * mnz E 3 9 = mnz E 3 12 * mnz E 9 9 + mnz E 11 13 * mnz E 1 8 := by
  simp [mnz, dZ, mzZ, lowb]
  try grind
theorem gz_41 (E : Nat → Int) : mnz E 10 12 * mnz E 9 5 = mnz E 10 5 * mnz E 9 12 + mnz E 11 13 * mnz E 8 4 := by
  simp [mnz, dZ, mzZ, lowb]
  try grind
theorem gz_42 (E : Nat → Int) : mnz E 11 14 * mnz E 7 7 = mnz E 3 6 * mnz E 15 15 + mnz E 11 7 * mnz E 7 14 := by
  simp [mnz, dZ, mzZ, lowb]
  try grind
theorem gz_43 (E : Nat → Int) : mnz E 13 7 * mnz E 10 6 = mnz E 14 7 * mnz E 9 6 + mnz E 12 6 * mnz E 11 7 := by
  simp [mnz, dZ, mzZ, lowb]
  try grind
theorem gz_44 (E : Nat → Int) : mnz E 13 11 * mnz E 7 7 = mnz E 5 3 * mnz E 15 15 + mnz E 13 7 * mnz E 7 11 := by
  simp [mnz, dZ, mzZ, lowb]
  try grind
theorem gz_45 (E : Nat → Int) : mnz E 12 9 * mnz E 5 3 = mnz E 13 11 * mnz E 4 1 + mnz E 12 3 * mnz E 5 9 := by
  simp [mnz, dZ, mzZ, lowb]
  try grind
theorem gz_46 (E : Nat → Int) : mnz E 12 10 * mnz E 5 3 = mnz E 5 10 * mnz E 12 3 + mnz E 13 11 * mnz E 4 2 := by
  simp [mnz, dZ, mzZ, lowb]
  try grind
theorem gz_47 (E : Nat → Int) : mnz E 13 13 * mnz E 11 11 = mnz E 13 11 * mnz E 11 13 + mnz E 15 15 * mnz E 9 9 := by
  simp [mnz, dZ, mzZ, lowb]
  try grind
theorem gz_48 (E : Nat → Int) : mnz E 12 12 * mnz E 9 5 = mnz E 13 13 * mnz E 8 4 + mnz E 12 5 * mnz E 9 12 := by
  simp [mnz, dZ, mzZ, lowb]
  try grind
theorem gz_49 (E : Nat → Int) : mnz E 13 14 * mnz E 11 11 = mnz E 11 14 * mnz E 13 11 + mnz E 9 10 * mnz E 15 15 := by
  simp [mnz, dZ, mzZ, lowb]
  try grind
theorem gz_50 (E : Nat → Int) : mnz E 14 11 * mnz E 7 7 = mnz E 14 7 * mnz E 7 11 + mnz E 15 15 * mnz E 6 3 := by
  simp [mnz, dZ, mzZ, lowb]
  try grind
theorem gz_51 (E : Nat → Int) : mnz E 14 13 * mnz E 13 11 = mnz E 12 9 * mnz E 15 15 + mnz E 13 13 * mnz E 14 11 := by
  simp [mnz, dZ, mzZ, lowb]
  try grind
theorem gz_52 (E : Nat → Int) : mnz E 14 14 * mnz E 13 11 = mnz E 12 10 * mnz E 15 15 + mnz E 13 14 * mnz E 14 11 := by
  simp [mnz, dZ, mzZ, lowb]
  try grind
