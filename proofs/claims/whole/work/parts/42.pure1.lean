/-! minors: like tables, whole numbers, few that tell of all -/
theorem fin_bx : (List.range 16).all (fun x => (List.range 4).all (fun j => (List.range 4).all (fun i => decide (x / 2 ^ j % 2 = 1 → (x ^^^ 2 ^ j) / 2 ^ i % 2 = 1 → x / 2 ^ i % 2 = 1 ∧ i ≠ j)))) = true := by decide +kernel
theorem t_bx {x j i : Nat} (hx : x < 16) (hj : j < 4) (hi : i < 4) (h : x / 2 ^ j % 2 = 1) (h2 : (x ^^^ 2 ^ j) / 2 ^ i % 2 = 1) : x / 2 ^ i % 2 = 1 ∧ i ≠ j := of_decide_eq_true (List.all_eq_true.mp (List.all_eq_true.mp (List.all_eq_true.mp fin_bx x (List.mem_range.mpr hx)) j (List.mem_range.mpr hj)) i (List.mem_range.mpr hi)) h h2
theorem fin_bn : (List.range 5).all (fun n => (List.range 16).all (fun x => (List.range 4).all (fun i => decide (x < 2 ^ n → x / 2 ^ i % 2 = 1 → i < n)))) = true := by decide +kernel
theorem t_bn {n x i : Nat} (hn : n ≤ 4) (hx : x < 2 ^ n) (hi : i < 4) (h : x / 2 ^ i % 2 = 1) : i < n := by
  have hp : 2 ^ n ≤ 2 ^ 4 := Nat.pow_le_pow_right (by omega) hn
  exact of_decide_eq_true (List.all_eq_true.mp (List.all_eq_true.mp (List.all_eq_true.mp fin_bn n (List.mem_range.mpr (by omega))) x (List.mem_range.mpr (by omega))) i (List.mem_range.mpr hi)) hx h
theorem mz_congr {E E' : Nat → Nat → Int64} {rc rc' : Nat → Int64} {i C : Nat} : ∀ m j sg, j + m = 4 → (∀ k, k < 4 → C / 2 ^ k % 2 = 1 → E i k = E' i k) → (∀ k, k < 4 → C / 2 ^ k % 2 = 1 → rc k = rc' k) → mz E rc i C m j sg = mz E' rc' i C m j sg := by
  intro m
  induction m with
  | zero => intro j sg _ _ _; rfl
  | succ m ih =>
    intro j sg hj h1 h2
    rw [mz, mz, ih (j + 1) _ (by omega) h1 h2, ih (j + 1) _ (by omega) h1 h2]
    by_cases c : C / 2 ^ j % 2 = 1
    · rw [if_pos c, if_pos c, h1 j (by omega) c, h2 j (by omega) c]
    · rw [if_neg c, if_neg c]
theorem dL_congr {E E' : Nat → Nat → Int64} : ∀ f R C, R < 16 → C < 16 → (∀ i j, i < 4 → j < 4 → R / 2 ^ i % 2 = 1 → C / 2 ^ j % 2 = 1 → E i j = E' i j) → dL E f R C = dL E' f R C := by
  intro f
  induction f with
  | zero => intro R C _ _ _; rfl
  | succ f ih =>
    intro R C hR hC h
    rw [dL, dL]
    by_cases c : R = 0
    · rw [if_pos c, if_pos c]
    · obtain ⟨l1, l2, _⟩ := t_low hR c
      rw [if_neg c, if_neg c]
      refine mz_congr 4 0 1 rfl (fun k hk hb => h _ k l2 hk l1 hb) (fun k hk hb => ?_)
      exact ih _ _ (t_clr hR l2 l1).2.1 (t_clr hC hk hb).2.1 (fun i j hi hj g1 g2 => h i j hi hj (t_bx hR l2 hi l1 g1).1 (t_bx hC hk hj hb g2).1)
theorem mnr_congr {E E' : Nat → Int64} {n R C : Nat} (h4 : n ≤ 4) (hR : R < 2 ^ n) (hC : C < 2 ^ n) (h : ∀ i j, i < n → j < n → E (4 * i + j) = E' (4 * i + j)) : mnr E R C = mnr E' R C := by
  have hp : 2 ^ n ≤ 2 ^ 4 := Nat.pow_le_pow_right (by omega) h4
  exact dL_congr 4 R C (by omega) (by omega) (fun i j hi hj g1 g2 => h i j (t_bn h4 hR hi g1) (t_bn h4 hC hj g2))
theorem i64_add {a b : Int64} (h : a.toInt.natAbs + b.toInt.natAbs < 2 ^ 63) : (a + b).toInt = a.toInt + b.toInt := by
  rw [Int64.toInt_add, Int.bmod_eq_of_le_mul_two (by omega) (by omega)]
theorem i64_sub {a b : Int64} (h : a.toInt.natAbs + b.toInt.natAbs < 2 ^ 63) : (a - b).toInt = a.toInt - b.toInt := by
  rw [Int64.toInt_sub, Int.bmod_eq_of_le_mul_two (by omega) (by omega)]
theorem i64_mul {a b : Int64} (h : a.toInt.natAbs * b.toInt.natAbs < 2 ^ 63) : (a * b).toInt = a.toInt * b.toInt := by
  have := Int.natAbs_mul a.toInt b.toInt
  rw [Int64.toInt_mul, Int.bmod_eq_of_le_mul_two (by omega) (by omega)]
theorem i64_neg {a : Int64} (h : a.toInt.natAbs < 2 ^ 63) : (-a).toInt = -a.toInt := by
  rw [Int64.toInt_neg, Int.bmod_eq_of_le_mul_two (by omega) (by omega)]
theorem mz_Z {E : Nat → Nat → Int64} {rc : Nat → Int64} {i C b : Nat} (hE : ∀ j, j < 4 → (E i j).toInt.natAbs ≤ 99) (hr : ∀ j, j < 4 → C / 2 ^ j % 2 = 1 → (rc j).toInt.natAbs ≤ b) (hb : b ≤ 62099136) : ∀ m j sg, j + m = 4 → sg.toInt.natAbs = 1 → (mz E rc i C m j sg).toInt = mzZ (fun i j => (E i j).toInt) (fun j => (rc j).toInt) i C m j sg.toInt ∧ (mzZ (fun i j => (E i j).toInt) (fun j => (rc j).toInt) i C m j sg.toInt).natAbs ≤ m * (99 * b) := by
  intro m
  induction m with
  | zero => intro j sg _ _; exact ⟨rfl, by rw [mzZ]; simp⟩
  | succ m ih =>
    intro j sg hj hs
    rw [mz, mzZ]
    have hm : m * (99 * b) ≤ 4 * (99 * b) := Nat.mul_le_mul_right _ (by omega)
    by_cases c : C / 2 ^ j % 2 = 1
    · rw [if_pos c, if_pos c]
      have en : (-sg).toInt = -sg.toInt := i64_neg (by omega)
      obtain ⟨e1, e2⟩ := ih (j + 1) (-sg) (by omega) (by rw [en]; omega)
      rw [en] at e1 e2
      have h1 := hE j (by omega)
      have h2 := hr j (by omega) c
      have a1 : (sg * E i j).toInt = sg.toInt * (E i j).toInt := i64_mul (by rw [hs]; omega)
      have a2 : (sg.toInt * (E i j).toInt).natAbs = (E i j).toInt.natAbs := by rw [Int.natAbs_mul, hs, Nat.one_mul]
      have a3 : (sg * E i j).toInt.natAbs * (rc j).toInt.natAbs ≤ 99 * b := by rw [a1, a2]; exact Nat.mul_le_mul h1 h2
      have a4 : (sg * E i j * rc j).toInt = sg.toInt * (E i j).toInt * (rc j).toInt := by rw [i64_mul (by omega), a1]
      have a5 : (sg.toInt * (E i j).toInt * (rc j).toInt).natAbs ≤ 99 * b := by rw [← a1, Int.natAbs_mul]; exact a3
      refine ⟨?_, ?_⟩
      · rw [i64_add (by rw [a4, e1]; omega), a4, e1]
      · refine Nat.le_trans (Int.natAbs_add_le _ _) ?_
        rw [Nat.succ_mul]
        omega
    · rw [if_neg c, if_neg c]
      obtain ⟨e1, e2⟩ := ih (j + 1) sg (by omega) hs
      exact ⟨e1, Nat.le_trans e2 (Nat.mul_le_mul_right _ (by omega))⟩
theorem mzZ_congr {E : Nat → Nat → Int} {rc rc' : Nat → Int} {i C : Nat} : ∀ m j sg, j + m = 4 → (∀ k, k < 4 → C / 2 ^ k % 2 = 1 → rc k = rc' k) → mzZ E rc i C m j sg = mzZ E rc' i C m j sg := by
  intro m
  induction m with
  | zero => intro j sg _ _; rfl
  | succ m ih =>
    intro j sg hj h2
    rw [mzZ, mzZ, ih (j + 1) _ (by omega) h2, ih (j + 1) _ (by omega) h2]
    by_cases c : C / 2 ^ j % 2 = 1
    · rw [if_pos c, if_pos c, h2 j (by omega) c]
    · rw [if_neg c, if_neg c]
theorem p396 : ∀ k, k ≤ 3 → 396 ^ k ≤ 62099136 := by decide
theorem dL_Z {E : Nat → Nat → Int64} (hE : ∀ i j, i < 4 → j < 4 → (E i j).toInt.natAbs ≤ 99) : ∀ f R C, R < 16 → pop4 R ≤ f → (dL E f R C).toInt = dZ (fun i j => (E i j).toInt) f R C ∧ (dZ (fun i j => (E i j).toInt) f R C).natAbs ≤ 396 ^ pop4 R := by
  intro f
  induction f with
  | zero =>
    intro R C hR hp
    exact ⟨rfl, Nat.one_le_pow _ _ (by omega)⟩
  | succ f ih =>
    intro R C hR hp
    rw [dL, dZ]
    by_cases c : R = 0
    · rw [if_pos c, if_pos c]
      exact ⟨rfl, Nat.one_le_pow _ _ (by omega)⟩
    · obtain ⟨l1, l2, _⟩ := t_low hR c
      obtain ⟨_, r1, r2⟩ := t_clr hR l2 l1
      rw [if_neg c, if_neg c]
      have p4 := pp4 R
      have hb := p396 (pop4 (R ^^^ 2 ^ lowb R)) (by omega)
      obtain ⟨e1, e2⟩ := mz_Z (E := E) (rc := fun j => dL E f (R ^^^ 2 ^ lowb R) (C ^^^ 2 ^ j)) (i := lowb R) (C := C) (fun j hj => hE _ j l2 hj) (fun j _ _ => by rw [(ih _ (C ^^^ 2 ^ j) r1 (by omega)).1]; exact (ih _ (C ^^^ 2 ^ j) r1 (by omega)).2) hb 4 0 1 rfl rfl
      have ec := mzZ_congr (E := fun i j => (E i j).toInt) (rc := fun j => (dL E f (R ^^^ 2 ^ lowb R) (C ^^^ 2 ^ j)).toInt) (rc' := fun j => dZ (fun i j => (E i j).toInt) f (R ^^^ 2 ^ lowb R) (C ^^^ 2 ^ j)) (i := lowb R) (C := C) 4 0 1 rfl (fun k _ _ => (ih _ _ r1 (by omega)).1)
      rw [show (1 : Int64).toInt = 1 from rfl] at e1 e2
      rw [ec] at e1 e2
      refine ⟨e1, Nat.le_trans e2 ?_⟩
      rw [← r2, Nat.pow_succ]
      omega
/-- a table cut off behind n lines -/
def cut (n : Nat) (E : Nat → Int64) (p : Nat) : Int64 := if p / 4 < n ∧ p % 4 < n then E p else 0
theorem cut_E {n : Nat} (h4 : n ≤ 4) (E : Nat → Int64) {i j : Nat} (hi : i < n) (hj : j < n) : cut n E (4 * i + j) = E (4 * i + j) := if_pos (by omega)
theorem cut_b {n : Nat} {E : Nat → Int64} (h : ∀ i j, i < n → j < n → bd (E (4 * i + j)) 99) (p : Nat) : (cut n E p).toInt.natAbs ≤ 99 := by
  unfold cut
  by_cases c : p / 4 < n ∧ p % 4 < n
  · rw [if_pos c]
    have := h _ _ c.1 c.2
    rw [show 4 * (p / 4) + p % 4 = p by omega] at this
    unfold bd at this
    omega
  · rw [if_neg c]
    decide
def zE (n : Nat) (E : Nat → Int64) (p : Nat) : Int := (cut n E p).toInt
theorem mnr_Z {E : Nat → Int64} {n R C : Nat} (h4 : n ≤ 4) (hR : R < 2 ^ n) (hC : C < 2 ^ n) (h : ∀ i j, i < n → j < n → bd (E (4 * i + j)) 99) : (mnr E R C).toInt = mnz (zE n E) R C ∧ (mnz (zE n E) R C).natAbs ≤ 396 ^ pop4 R := by
  have hp : 2 ^ n ≤ 2 ^ 4 := Nat.pow_le_pow_right (by omega) h4
  rw [mnr_congr (E' := cut n E) h4 hR hC (fun i j hi hj => (cut_E h4 E hi hj).symm)]
  exact dL_Z (E := fun i j => cut n E (4 * i + j)) (fun i j _ _ => cut_b h _) 4 R C (by omega) (pp4 R)
def fmz (E : Nat → Int) (i j : Nat) : Int := mnz E (blk i (min i j + 1)) (blk j (min i j + 1))
def gl2 : List (Nat × Nat) := [(0, 0), (1, 1), (1, 2), (2, 1), (2, 2), (3, 3)]
theorem fin_gl2 : (List.range 4).all (fun R => (List.range 4).all (fun C => decide (pop4 R = pop4 C → (R, C) ∈ gl2))) = true := by decide +kernel
theorem gz_all2 {E : Nat → Int} (h : ∀ i j, i < 2 → j < 2 → 0 < fmz E i j) {R C : Nat} (hR : R < 4) (hC : C < 4) (hp : pop4 R = pop4 C) : 0 < mnz E R C := by
  have p_0_0 : 0 < mnz E 0 0 := by rw [mnz_0]; decide
  have p_1_1 : 0 < mnz E 1 1 := h 0 0 (by omega) (by omega)
  have p_1_2 : 0 < mnz E 1 2 := h 0 1 (by omega) (by omega)
  have p_2_1 : 0 < mnz E 2 1 := h 1 0 (by omega) (by omega)
  have p_3_3 : 0 < mnz E 3 3 := h 1 1 (by omega) (by omega)
  have p_2_2 : 0 < mnz E 2 2 := gz_pos (gz_0 E) p_1_1 p_1_2 p_2_1 p_0_0 p_3_3
  have all : ∀ p, p ∈ gl2 → 0 < mnz E p.1 p.2 := by
    intro p hp
    simp only [gl2, List.mem_cons, List.not_mem_nil, or_false] at hp
    rcases hp with rfl | rfl | rfl | rfl | rfl | rfl
    · exact p_0_0
    · exact p_1_1
    · exact p_1_2
    · exact p_2_1
    · exact p_2_2
    · exact p_3_3
  exact all (R, C) (of_decide_eq_true (List.all_eq_true.mp (List.all_eq_true.mp fin_gl2 R (List.mem_range.mpr hR)) C (List.mem_range.mpr hC)) hp)
def gl3 : List (Nat × Nat) := [(0, 0), (1, 1), (1, 2), (1, 4), (2, 1), (2, 2), (2, 4), (3, 3), (3, 5), (3, 6), (4, 1), (4, 2), (4, 4), (5, 3), (5, 5), (5, 6), (6, 3), (6, 5), (6, 6), (7, 7)]
theorem fin_gl3 : (List.range 8).all (fun R => (List.range 8).all (fun C => decide (pop4 R = pop4 C → (R, C) ∈ gl3))) = true := by decide +kernel
theorem gz_all3 {E : Nat → Int} (h : ∀ i j, i < 3 → j < 3 → 0 < fmz E i j) {R C : Nat} (hR : R < 8) (hC : C < 8) (hp : pop4 R = pop4 C) : 0 < mnz E R C := by
  have p_0_0 : 0 < mnz E 0 0 := by rw [mnz_0]; decide
  have p_1_1 : 0 < mnz E 1 1 := h 0 0 (by omega) (by omega)
  have p_1_2 : 0 < mnz E 1 2 := h 0 1 (by omega) (by omega)
  have p_1_4 : 0 < mnz E 1 4 := h 0 2 (by omega) (by omega)
  have p_2_1 : 0 < mnz E 2 1 := h 1 0 (by omega) (by omega)
  have p_3_3 : 0 < mnz E 3 3 := h 1 1 (by omega) (by omega)
  have p_3_6 : 0 < mnz E 3 6 := h 1 2 (by omega) (by omega)
  have p_4_1 : 0 < mnz E 4 1 := h 2 0 (by omega) (by omega)
  have p_6_3 : 0 < mnz E 6 3 := h 2 1 (by omega) (by omega)
  have p_7_7 : 0 < mnz E 7 7 := h 2 2 (by omega) (by omega)
  have p_2_2 : 0 < mnz E 2 2 := gz_pos (gz_0 E) p_1_1 p_1_2 p_2_1 p_0_0 p_3_3
  have p_2_4 : 0 < mnz E 2 4 := gz_pos (gz_1 E) p_1_2 p_0_0 p_3_6 p_1_4 p_2_2
  have p_4_2 : 0 < mnz E 4 2 := gz_pos (gz_2 E) p_2_1 p_0_0 p_6_3 p_2_2 p_4_1
  have p_3_5 : 0 < mnz E 3 5 := gz_pos (gz_3 E) p_1_2 p_1_1 p_3_6 p_1_4 p_3_3
  have p_5_3 : 0 < mnz E 5 3 := gz_pos (gz_4 E) p_2_1 p_1_1 p_6_3 p_3_3 p_4_1
  have p_5_5 : 0 < mnz E 5 5 := gz_pos (gz_5 E) p_3_3 p_7_7 p_1_1 p_5_3 p_3_5
  have p_4_4 : 0 < mnz E 4 4 := gz_pos (gz_6 E) p_1_1 p_5_5 p_0_0 p_1_4 p_4_1
  have p_5_6 : 0 < mnz E 5 6 := gz_pos (gz_7 E) p_3_3 p_1_2 p_7_7 p_3_6 p_5_3
  have p_6_5 : 0 < mnz E 6 5 := gz_pos (gz_8 E) p_3_3 p_2_1 p_7_7 p_6_3 p_3_5
  have p_6_6 : 0 < mnz E 6 6 := gz_pos (gz_9 E) p_3_3 p_2_2 p_7_7 p_3_6 p_6_3
  have all : ∀ p, p ∈ gl3 → 0 < mnz E p.1 p.2 := by
    intro p hp
    simp only [gl3, List.mem_cons, List.not_mem_nil, or_false] at hp
    rcases hp with rfl | rfl | rfl | rfl | rfl | rfl | rfl | rfl | rfl | rfl | rfl | rfl | rfl | rfl | rfl | rfl | rfl | rfl | rfl | rfl
    · exact p_0_0
    · exact p_1_1
    · exact p_1_2
    · exact p_1_4
    · exact p_2_1
    · exact p_2_2
    · exact p_2_4
    · exact p_3_3
    · exact p_3_5
    · exact p_3_6
    · exact p_4_1
    · exact p_4_2
    · exact p_4_4
    · exact p_5_3
    · exact p_5_5
    · exact p_5_6
    · exact p_6_3
    · exact p_6_5
    · exact p_6_6
    · exact p_7_7
  exact all (R, C) (of_decide_eq_true (List.all_eq_true.mp (List.all_eq_true.mp fin_gl3 R (List.mem_range.mpr hR)) C (List.mem_range.mpr hC)) hp)
def gl4 : List (Nat × Nat) := [(0, 0), (1, 1), (1, 2), (1, 4), (1, 8), (2, 1), (2, 2), (2, 4), (2, 8), (3, 3), (3, 5), (3, 6), (3, 9), (3, 10), (3, 12), (4, 1), (4, 2), (4, 4), (4, 8), (5, 3), (5, 5), (5, 6), (5, 9), (5, 10), (5, 12), (6, 3), (6, 5), (6, 6), (6, 9), (6, 10), (6, 12), (7, 7), (7, 11), (7, 13), (7, 14), (8, 1), (8, 2), (8, 4), (8, 8), (9, 3), (9, 5), (9, 6), (9, 9), (9, 10), (9, 12), (10, 3), (10, 5), (10, 6), (10, 9), (10, 10), (10, 12), (11, 7), (11, 11), (11, 13), (11, 14), (12, 3), (12, 5), (12, 6), (12, 9), (12, 10), (12, 12), (13, 7), (13, 11), (13, 13), (13, 14), (14, 7), (14, 11), (14, 13), (14, 14), (15, 15)]
theorem fin_gl4 : (List.range 16).all (fun R => (List.range 16).all (fun C => decide (pop4 R = pop4 C → (R, C) ∈ gl4))) = true := by decide +kernel
theorem gz_all4 {E : Nat → Int} (h : ∀ i j, i < 4 → j < 4 → 0 < fmz E i j) {R C : Nat} (hR : R < 16) (hC : C < 16) (hp : pop4 R = pop4 C) : 0 < mnz E R C := by
  have p_0_0 : 0 < mnz E 0 0 := by rw [mnz_0]; decide
  have p_1_1 : 0 < mnz E 1 1 := h 0 0 (by omega) (by omega)
  have p_1_2 : 0 < mnz E 1 2 := h 0 1 (by omega) (by omega)
  have p_1_4 : 0 < mnz E 1 4 := h 0 2 (by omega) (by omega)
  have p_1_8 : 0 < mnz E 1 8 := h 0 3 (by omega) (by omega)
  have p_2_1 : 0 < mnz E 2 1 := h 1 0 (by omega) (by omega)
  have p_3_3 : 0 < mnz E 3 3 := h 1 1 (by omega) (by omega)
  have p_3_6 : 0 < mnz E 3 6 := h 1 2 (by omega) (by omega)
  have p_3_12 : 0 < mnz E 3 12 := h 1 3 (by omega) (by omega)
  have p_4_1 : 0 < mnz E 4 1 := h 2 0 (by omega) (by omega)
  have p_6_3 : 0 < mnz E 6 3 := h 2 1 (by omega) (by omega)
  have p_7_7 : 0 < mnz E 7 7 := h 2 2 (by omega) (by omega)
  have p_7_14 : 0 < mnz E 7 14 := h 2 3 (by omega) (by omega)
  have p_8_1 : 0 < mnz E 8 1 := h 3 0 (by omega) (by omega)
  have p_12_3 : 0 < mnz E 12 3 := h 3 1 (by omega) (by omega)
  have p_14_7 : 0 < mnz E 14 7 := h 3 2 (by omega) (by omega)
  have p_15_15 : 0 < mnz E 15 15 := h 3 3 (by omega) (by omega)
  have p_2_2 : 0 < mnz E 2 2 := gz_pos (gz_0 E) p_1_1 p_1_2 p_2_1 p_0_0 p_3_3
  have p_2_4 : 0 < mnz E 2 4 := gz_pos (gz_1 E) p_1_2 p_0_0 p_3_6 p_1_4 p_2_2
  have p_4_2 : 0 < mnz E 4 2 := gz_pos (gz_2 E) p_2_1 p_0_0 p_6_3 p_2_2 p_4_1
  have p_3_5 : 0 < mnz E 3 5 := gz_pos (gz_3 E) p_1_2 p_1_1 p_3_6 p_1_4 p_3_3
  have p_5_3 : 0 < mnz E 5 3 := gz_pos (gz_4 E) p_2_1 p_1_1 p_6_3 p_3_3 p_4_1
  have p_5_5 : 0 < mnz E 5 5 := gz_pos (gz_5 E) p_3_3 p_7_7 p_1_1 p_5_3 p_3_5
  have p_4_4 : 0 < mnz E 4 4 := gz_pos (gz_6 E) p_1_1 p_5_5 p_0_0 p_1_4 p_4_1
  have p_5_6 : 0 < mnz E 5 6 := gz_pos (gz_7 E) p_3_3 p_1_2 p_7_7 p_3_6 p_5_3
  have p_6_5 : 0 < mnz E 6 5 := gz_pos (gz_8 E) p_3_3 p_2_1 p_7_7 p_6_3 p_3_5
  have p_6_6 : 0 < mnz E 6 6 := gz_pos (gz_9 E) p_3_3 p_2_2 p_7_7 p_3_6 p_6_3
  have p_2_8 : 0 < mnz E 2 8 := gz_pos (gz_10 E) p_1_4 p_3_12 p_0_0 p_2_4 p_1_8
  have p_8_2 : 0 < mnz E 8 2 := gz_pos (gz_11 E) p_4_1 p_4_2 p_8_1 p_12_3 p_0_0
  have p_3_9 : 0 < mnz E 3 9 := gz_pos (gz_12 E) p_2_4 p_2_8 p_3_5 p_3_12 p_2_1
  have p_3_10 : 0 < mnz E 3 10 := gz_pos (gz_13 E) p_2_4 p_2_2 p_3_12 p_2_8 p_3_6
  have p_5_10 : 0 < mnz E 5 10 := gz_pos (gz_14 E) p_3_6 p_3_10 p_5_6 p_1_2 p_7_14
  have p_4_8 : 0 < mnz E 4 8 := gz_pos (gz_15 E) p_1_2 p_5_10 p_0_0 p_4_2 p_1_8
  have p_5_9 : 0 < mnz E 5 9 := gz_pos (gz_16 E) p_4_2 p_5_10 p_4_1 p_4_8 p_5_3
  have p_5_12 : 0 < mnz E 5 12 := gz_pos (gz_17 E) p_3_10 p_5_10 p_3_12 p_1_8 p_7_14
  have p_6_10 : 0 < mnz E 6 10 := gz_pos (gz_18 E) p_5_6 p_5_10 p_6_6 p_4_2 p_7_14
  have p_6_9 : 0 < mnz E 6 9 := gz_pos (gz_19 E) p_2_2 p_2_8 p_6_3 p_2_1 p_6_10
  have p_6_12 : 0 < mnz E 6 12 := gz_pos (gz_20 E) p_3_10 p_2_8 p_7_14 p_3_12 p_6_10
  have p_9_3 : 0 < mnz E 9 3 := gz_pos (gz_21 E) p_4_2 p_12_3 p_1_2 p_5_3 p_8_2
  have p_10_3 : 0 < mnz E 10 3 := gz_pos (gz_22 E) p_4_2 p_2_2 p_12_3 p_8_2 p_6_3
  have p_10_5 : 0 < mnz E 10 5 := gz_pos (gz_23 E) p_6_3 p_14_7 p_2_1 p_10_3 p_6_5
  have p_8_4 : 0 < mnz E 8 4 := gz_pos (gz_24 E) p_2_1 p_2_4 p_8_1 p_10_5 p_0_0
  have p_9_5 : 0 < mnz E 9 5 := gz_pos (gz_25 E) p_2_4 p_10_5 p_1_4 p_3_5 p_8_4
  have p_10_6 : 0 < mnz E 10 6 := gz_pos (gz_26 E) p_6_5 p_14_7 p_2_4 p_10_5 p_6_6
  have p_9_6 : 0 < mnz E 9 6 := gz_pos (gz_27 E) p_2_2 p_10_6 p_1_2 p_3_6 p_8_2
  have p_12_5 : 0 < mnz E 12 5 := gz_pos (gz_28 E) p_10_3 p_14_7 p_8_1 p_12_3 p_10_5
  have p_12_6 : 0 < mnz E 12 6 := gz_pos (gz_29 E) p_10_3 p_14_7 p_8_2 p_10_6 p_12_3
  have p_7_11 : 0 < mnz E 7 11 := gz_pos (gz_30 E) p_5_6 p_5_10 p_7_7 p_5_3 p_7_14
  have p_7_13 : 0 < mnz E 7 13 := gz_pos (gz_31 E) p_3_10 p_3_9 p_7_14 p_3_12 p_7_11
  have p_11_7 : 0 < mnz E 11 7 := gz_pos (gz_32 E) p_6_5 p_14_7 p_3_5 p_7_7 p_10_5
  have p_11_11 : 0 < mnz E 11 11 := gz_pos (gz_33 E) p_7_7 p_3_3 p_15_15 p_11_7 p_7_11
  have p_9_9 : 0 < mnz E 9 9 := gz_pos (gz_34 E) p_3_3 p_11_11 p_1_1 p_3_9 p_9_3
  have p_8_8 : 0 < mnz E 8 8 := gz_pos (gz_35 E) p_1_1 p_1_8 p_8_1 p_0_0 p_9_9
  have p_9_10 : 0 < mnz E 9 10 := gz_pos (gz_36 E) p_3_3 p_3_10 p_9_3 p_11_11 p_1_2
  have p_10_9 : 0 < mnz E 10 9 := gz_pos (gz_37 E) p_3_3 p_10_3 p_3_9 p_11_11 p_2_1
  have p_10_10 : 0 < mnz E 10 10 := gz_pos (gz_38 E) p_3_3 p_3_10 p_10_3 p_2_2 p_11_11
  have p_11_13 : 0 < mnz E 11 13 := gz_pos (gz_39 E) p_7_7 p_7_13 p_11_7 p_15_15 p_3_5
  have p_9_12 : 0 < mnz E 9 12 := gz_pos (gz_40 E) p_3_9 p_3_12 p_9_9 p_11_13 p_1_8
  have p_10_12 : 0 < mnz E 10 12 := gz_pos (gz_41 E) p_9_5 p_10_5 p_9_12 p_11_13 p_8_4
  have p_11_14 : 0 < mnz E 11 14 := gz_pos (gz_42 E) p_7_7 p_3_6 p_15_15 p_11_7 p_7_14
  have p_13_7 : 0 < mnz E 13 7 := gz_pos (gz_43 E) p_10_6 p_14_7 p_9_6 p_12_6 p_11_7
  have p_13_11 : 0 < mnz E 13 11 := gz_pos (gz_44 E) p_7_7 p_5_3 p_15_15 p_13_7 p_7_11
  have p_12_9 : 0 < mnz E 12 9 := gz_pos (gz_45 E) p_5_3 p_13_11 p_4_1 p_12_3 p_5_9
  have p_12_10 : 0 < mnz E 12 10 := gz_pos (gz_46 E) p_5_3 p_5_10 p_12_3 p_13_11 p_4_2
  have p_13_13 : 0 < mnz E 13 13 := gz_pos (gz_47 E) p_11_11 p_13_11 p_11_13 p_15_15 p_9_9
  have p_12_12 : 0 < mnz E 12 12 := gz_pos (gz_48 E) p_9_5 p_13_13 p_8_4 p_12_5 p_9_12
  have p_13_14 : 0 < mnz E 13 14 := gz_pos (gz_49 E) p_11_11 p_11_14 p_13_11 p_9_10 p_15_15
  have p_14_11 : 0 < mnz E 14 11 := gz_pos (gz_50 E) p_7_7 p_14_7 p_7_11 p_15_15 p_6_3
  have p_14_13 : 0 < mnz E 14 13 := gz_pos (gz_51 E) p_13_11 p_12_9 p_15_15 p_13_13 p_14_11
  have p_14_14 : 0 < mnz E 14 14 := gz_pos (gz_52 E) p_13_11 p_12_10 p_15_15 p_13_14 p_14_11
  have all : ∀ p, p ∈ gl4 → 0 < mnz E p.1 p.2 := by
    intro p hp
    simp only [gl4, List.mem_cons, List.not_mem_nil, or_false] at hp
    rcases hp with rfl | rfl | rfl | rfl | rfl | rfl | rfl | rfl | rfl | rfl | rfl | rfl | rfl | rfl | rfl | rfl | rfl | rfl | rfl | rfl | rfl | rfl | rfl | rfl | rfl | rfl | rfl | rfl | rfl | rfl | rfl | rfl | rfl | rfl | rfl | rfl | rfl | rfl | rfl | rfl | rfl | rfl | rfl | rfl | rfl | rfl | rfl | rfl | rfl | rfl | rfl | rfl | rfl | rfl | rfl | rfl | rfl | rfl | rfl | rfl | rfl | rfl | rfl | rfl | rfl | rfl | rfl | rfl | rfl | rfl
    · exact p_0_0
    · exact p_1_1
    · exact p_1_2
    · exact p_1_4
    · exact p_1_8
    · exact p_2_1
    · exact p_2_2
    · exact p_2_4
    · exact p_2_8
    · exact p_3_3
    · exact p_3_5
    · exact p_3_6
    · exact p_3_9
    · exact p_3_10
    · exact p_3_12
    · exact p_4_1
    · exact p_4_2
    · exact p_4_4
    · exact p_4_8
    · exact p_5_3
    · exact p_5_5
    · exact p_5_6
    · exact p_5_9
    · exact p_5_10
    · exact p_5_12
    · exact p_6_3
    · exact p_6_5
    · exact p_6_6
    · exact p_6_9
    · exact p_6_10
    · exact p_6_12
    · exact p_7_7
    · exact p_7_11
    · exact p_7_13
    · exact p_7_14
    · exact p_8_1
    · exact p_8_2
    · exact p_8_4
    · exact p_8_8
    · exact p_9_3
    · exact p_9_5
    · exact p_9_6
    · exact p_9_9
    · exact p_9_10
    · exact p_9_12
    · exact p_10_3
    · exact p_10_5
    · exact p_10_6
    · exact p_10_9
    · exact p_10_10
    · exact p_10_12
    · exact p_11_7
    · exact p_11_11
    · exact p_11_13
    · exact p_11_14
    · exact p_12_3
    · exact p_12_5
    · exact p_12_6
    · exact p_12_9
    · exact p_12_10
    · exact p_12_12
    · exact p_13_7
    · exact p_13_11
    · exact p_13_13
    · exact p_13_14
    · exact p_14_7
    · exact p_14_11
    · exact p_14_13
    · exact p_14_14
    · exact p_15_15
  exact all (R, C) (of_decide_eq_true (List.all_eq_true.mp (List.all_eq_true.mp fin_gl4 R (List.mem_range.mpr hR)) C (List.mem_range.mpr hC)) hp)
theorem gz_all {E : Nat → Int} {n : Nat} (h2 : 2 ≤ n) (h4 : n ≤ 4) (h : ∀ i j, i < n → j < n → 0 < fmz E i j) {R C : Nat} (hR : R < 2 ^ n) (hC : C < 2 ^ n) (hp : pop4 R = pop4 C) : 0 < mnz E R C := by
  rcases (show n = 2 ∨ n = 3 ∨ n = 4 by omega) with rfl | rfl | rfl
  · exact gz_all2 h hR hC hp
  · exact gz_all3 h hR hC hp
  · exact gz_all4 h hR hC hp
theorem amJ_none {E : Nat → Int64} {i : Nat} : ∀ m j, amJ E i m j = none ↔ ∀ k, j ≤ k → k < j + m → 0 < fmn E i k := by
  intro m
  induction m with
  | zero => intro j; exact ⟨fun _ k h1 h2 => absurd h2 (by omega), fun _ => rfl⟩
  | succ m ih =>
    intro j
    rw [amJ]
    by_cases c : 0 < fmn E i j
    · rw [if_pos c, ih]
      refine ⟨fun h k h1 h2 => ?_, fun h k h1 h2 => h k (by omega) (by omega)⟩
      by_cases e : k = j
      · subst e; exact c
      · exact h k (by omega) (by omega)
    · rw [if_neg c]
      refine ⟨fun h => (by cases h), fun h => absurd (h j (by omega) (by omega)) c⟩
theorem amI_none {E : Nat → Int64} {n : Nat} : ∀ m i, amI E n m i = none ↔ ∀ k j, i ≤ k → k < i + m → j < n → 0 < fmn E k j := by
  intro m
  induction m with
  | zero => intro i; exact ⟨fun _ k j h1 h2 => absurd h2 (by omega), fun _ => rfl⟩
  | succ m ih =>
    intro i
    rw [amI]
    cases hj : amJ E i n 0 with
    | some v =>
      refine ⟨fun h => (by cases h), fun h => ?_⟩
      rw [(amJ_none n 0).mpr (fun k _ hk => h i k (by omega) (by omega) (by omega))] at hj
      cases hj
    | none =>
      have h0 := (amJ_none n 0).mp hj
      show amI E n m (i + 1) = none ↔ _
      rw [ih]
      refine ⟨fun h k j h1 h2 h3 => ?_, fun h k j h1 h2 h3 => h k j (by omega) (by omega) h3⟩
      by_cases e : k = i
      · subst e; exact h0 j (by omega) (by omega)
      · exact h k j (by omega) (by omega) h3
def allPos (E : Nat → Int64) (n : Nat) : Prop := ∀ R C, 1 ≤ R → R < 2 ^ n → 1 ≤ C → C < 2 ^ n → pop4 R = pop4 C → 0 < mnr E R C
theorem blk_pos : ∀ l, l < 4 → ∀ o, o < 5 → 1 ≤ o → o ≤ l + 1 → 1 ≤ blk l o := by decide
theorem pos_iff {E : Nat → Int64} {n : Nat} (h2 : 2 ≤ n) (h4 : n ≤ 4) (h : ∀ i j, i < n → j < n → bd (E (4 * i + j)) 99) : amI E n n 0 = none ↔ allPos E n := by
  rw [amI_none]
  have zi : ∀ x : Int64, 0 < x ↔ 0 < x.toInt := fun x => by rw [Int64.lt_iff_toInt_lt]; rfl
  constructor
  · intro g R C hR1 hR hC1 hC hp
    rw [zi, (mnr_Z h4 hR hC h).1]
    refine gz_all h2 h4 (fun i j hi hj => ?_) hR hC hp
    have b1 := t_blk h4 hi (show 1 ≤ min i j + 1 by omega) (by omega)
    have b2 := t_blk h4 hj (show 1 ≤ min i j + 1 by omega) (by omega)
    have := g i j (by omega) (by omega) hj
    rw [zi, fmn, (mnr_Z h4 b1.1 b2.1 h).1] at this
    exact this
  · intro g i j _ hi hj
    have b1 := t_blk h4 (show i < n by omega) (show 1 ≤ min i j + 1 by omega) (by omega)
    have b2 := t_blk h4 hj (show 1 ≤ min i j + 1 by omega) (by omega)
    exact g _ _ (blk_pos i (by omega) _ (by omega) (by omega) (by omega)) b1.1 (blk_pos j (by omega) _ (by omega) (by omega) (by omega)) b2.1 (b1.2.trans b2.2.symm)
