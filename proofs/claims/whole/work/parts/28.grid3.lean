/-! a Grid: which minors there are, first minors, what is amiss -/
def mnB (n : Nat) (x y : Int32) : Bool := !(decide (x < nI 1)) && (decide (x < nI (2 ^ n)) && (!(decide (y < nI 1)) && (decide (y < nI (2 ^ n)) && decide (pop4 x.toNatClampNeg = pop4 y.toNatClampNeg))))
theorem nI_ge1 {x : Int32} (h : ¬ x < nI 1) : ∃ k, k < 2147483648 ∧ 1 ≤ k ∧ x = nI k := by
  rcases nI_or x with h1 | ⟨k, h1, rfl⟩
  · exact absurd (show x < nI 1 from Int32.lt_trans h1 (by decide)) h
  · refine ⟨k, h1, ?_, rfl⟩
    exact Nat.le_of_not_lt (fun z => h ((nI_ltI h1 (by omega)).mpr z))
theorem mnB_nI {n R C : Nat} (hR : R < 2147483648) (hC : C < 2147483648) (h4 : n ≤ 4) : mnB n (nI R) (nI C) = decide (1 ≤ R ∧ R < 2 ^ n ∧ 1 ≤ C ∧ C < 2 ^ n ∧ pop4 R = pop4 C) := by
  have hp : 2 ^ n ≤ 2 ^ 4 := Nat.pow_le_pow_right (by omega) h4
  unfold mnB
  rw [nI_clamp (by omega), nI_clamp (by omega)]
  simp only [nI_ltI hR (show 1 < 2147483648 by omega), nI_ltI hC (show 1 < 2147483648 by omega), nI_ltI hR (show 2 ^ n < 2147483648 by omega), nI_ltI hC (show 2 ^ n < 2147483648 by omega)]
  rw [Bool.eq_iff_iff]
  simp only [Bool.and_eq_true, Bool.not_eq_true', decide_eq_false_iff_not, decide_eq_true_eq]
  omega
theorem mnB_spec {n : Nat} {x y : Int32} (h4 : n ≤ 4) (h : mnB n x y = true) : ∃ R C, x = nI R ∧ y = nI C ∧ 1 ≤ R ∧ R < 2 ^ n ∧ 1 ≤ C ∧ C < 2 ^ n ∧ pop4 R = pop4 C := by
  have h0 := h
  unfold mnB at h
  simp only [Bool.and_eq_true, Bool.not_eq_true', decide_eq_false_iff_not] at h
  obtain ⟨R, r1, r2, rfl⟩ := nI_ge1 h.1
  obtain ⟨C, c1, c2, rfl⟩ := nI_ge1 h.2.2.1
  rw [mnB_nI r1 c1 h4, decide_eq_true_eq] at h0
  exact ⟨R, C, rfl, rfl, h0⟩
def blk (last order : Nat) : Nat := (2 ^ order - 1) * 2 ^ (last + 1 - order)
theorem fin_blk : (List.range 5).all (fun n => (List.range 4).all (fun l => (List.range 5).all (fun o => decide (l < n → 1 ≤ o → o ≤ l + 1 → blk l o < 2 ^ n ∧ pop4 (blk l o) = o)))) = true := by decide +kernel
theorem t_blk {n l o : Nat} (hn : n ≤ 4) (hl : l < n) (h1 : 1 ≤ o) (h2 : o ≤ l + 1) : blk l o < 2 ^ n ∧ pop4 (blk l o) = o := of_decide_eq_true (List.all_eq_true.mp (List.all_eq_true.mp (List.all_eq_true.mp fin_blk n (List.mem_range.mpr (by omega))) l (List.mem_range.mpr (by omega))) o (List.mem_range.mpr (by omega))) hl h1 h2
theorem VV.mini {d u pc nx a b i : Nat} {ng : Bool} {sw : List (Nat × Nat)} {L : Lc} {r : List Value} {h : Hp} {Q : Option Value → Hp → Prop} (e : codeAt u pc = some (.invokestatic i, nx, 991, ng, sw)) (hab : a < 2147483648 ∧ b < 2147483648) (hc : catS r ≤ 8) (g : VV d u nx L (.int (nI (min a b)) :: r) h Q) : VV d u pc L (.int (nI b) :: .int (nI a) :: r) h Q := by
  have hm : nI (min a b) = if nI b < nI a then nI b else nI a := by
    by_cases hh : b < a
    · rw [if_pos ((nI_ltI hab.2 hab.1).mpr hh), Nat.min_eq_right (by omega)]
    · rw [if_neg (fun z => hh ((nI_ltI hab.2 hab.1).mp z)), Nat.min_eq_left (by omega)]
  rw [hm] at g
  refine VV.s ?_ g
  have h8 : Nat.ble (catS r) 8 = true := Nat.ble_eq_true_of_le hc
  simp only [stp, e, kindI, stepI, s_nat, h8]
  rfl
theorem VV.maxi {d u pc nx a b i : Nat} {ng : Bool} {sw : List (Nat × Nat)} {L : Lc} {r : List Value} {h : Hp} {Q : Option Value → Hp → Prop} (e : codeAt u pc = some (.invokestatic i, nx, 990, ng, sw)) (hab : a < 2147483648 ∧ b < 2147483648) (hc : catS r ≤ 8) (g : VV d u nx L (.int (nI (max a b)) :: r) h Q) : VV d u pc L (.int (nI b) :: .int (nI a) :: r) h Q := by
  have hm : nI (max a b) = if nI a < nI b then nI b else nI a := by
    by_cases hh : a < b
    · rw [if_pos ((nI_ltI hab.1 hab.2).mpr hh), Nat.max_eq_right (by omega)]
    · rw [if_neg (fun z => hh ((nI_ltI hab.1 hab.2).mp z)), Nat.max_eq_left (by omega)]
  rw [hm] at g
  refine VV.s ?_ g
  have h8 : Nat.ble (catS r) 8 = true := Nat.ble_eq_true_of_le hc
  simp only [stp, e, kindI, stepI, s_nat, h8]
  rfl
/-- first minors, and the first that is amiss -/
def fmn (E : Nat → Int64) (i j : Nat) : Int64 := mnr E (blk i (min i j + 1)) (blk j (min i j + 1))
def amJ (E : Nat → Int64) (i : Nat) : Nat → Nat → Option Nat
  | 0, _ => none
  | m + 1, j => if 0 < fmn E i j then amJ E i m (j + 1) else some (10 * i + j)
def amI (E : Nat → Int64) (n : Nat) : Nat → Nat → Option Nat
  | 0, _ => none
  | m + 1, i => match amJ E i n 0 with
    | some v => some v
    | none => amI E n m (i + 1)
def amR (o : Option Nat) : Int32 := match o with
  | some v => nI v
  | none => -(nI 5)
section GL4
variable {S : Cl} {τ : Nat → Int32} {A : Nat → Nat → Int32} {B : Nat → Nat → Int64}
variable {d g n : Nat} {Q : Option Value → Hp → Prop}
theorem c_detP (hg : (lkp tabG g).isSome = true) (hn : τ (100 * g + 2) = nI n) (h4 : n ≤ 4) {f0 : Nat → Int64} {R C : Nat} (hR : R < 2 ^ n) (hC : C < 2 ^ n) (hRC : pop4 R = pop4 C) (q : ∀ f, Q (some (.long (mnr (B (g + 1)) R C))) (HH S τ A (up B (g + 2) f))) : CC (d + 2) M_Grid_determinant [.ref g, .int (nI R), .int (nI C)] (HH S τ A (up B (g + 2) f0)) Q := by
  refine c_det hg hn h4 hR hC hRC (fun f => ?_)
  rw [up_up, up_n (show g + 1 ≠ g + 2 by omega)]
  exact q f
theorem c_hasMinor (hg : (lkp tabG g).isSome = true) (hn : τ (100 * g + 2) = nI n) (h4 : n ≤ 4) {x y : Int32} (q : Q (some (.int (bI (mnB n x y)))) (HH S τ A B)) : CC (d + 1) M_Grid_hasMinor [.ref g, .int x, .int y] (HH S τ A B) Q := by
  have hp : 2 ^ n ≤ 2 ^ 4 := Nat.pow_le_pow_right (by omega) h4
  refine CC.of rfl ?_
  unfold mnB at q
  repeat refine VV.s rfl ?_
  refine VV.i (fun c1 => ?_) (fun c1 => ?_)
  · rw [decide_eq_true c1] at q
    repeat (first | refine VV.add rfl ?_ | refine VV.inc rfl rfl rfl ?_ | refine VV.mul rfl ?_ | refine VV.sub rfl (by omega) ?_ | refine VV.shl1 rfl (by omega) ?_ | refine VV.shl rfl ⟨by omega, by omega⟩ ?_ | refine VV.shr rfl ⟨by omega, by omega⟩ ?_ | refine VV.and rfl ?_ | refine VV.s rfl ?_  | refine VV.b (b_ltT (by omega) (by omega)) ?_ | refine VV.b (b_ltF (by omega) (by omega)) ?_ | refine VV.b (b_geT (by omega) (by omega)) ?_ | refine VV.b (b_geF (by omega) (by omega)) ?_ | refine VV.b (b_gtT (by omega) (by omega)) ?_ | refine VV.b (b_gtF (by omega) (by omega)) ?_ | refine VV.b (b_leT (by omega) (by omega)) ?_ | refine VV.b (b_leF (by omega) (by omega)) ?_ | refine VV.b (b_eqT (by omega) (by omega)) ?_ | refine VV.b (b_eqF (by omega) (by omega)) ?_ | refine VV.b (b_neT (by omega) (by omega)) ?_ | refine VV.b (b_neF (by omega) (by omega)) ?_)
    exact VV.r rfl q
  rw [decide_eq_false c1] at q
  refine VV.s rfl ?_
  refine VV.s rfl ?_
  refine VV.cv rfl (rdG hg).1 ?_
  refine c_sets hg hn h4 ?_
  repeat refine VV.s rfl ?_
  refine VV.i (fun c2 => ?_) (fun c2 => ?_)
  case refine_2 =>
    rw [decide_eq_false c2] at q
    repeat (first | refine VV.add rfl ?_ | refine VV.inc rfl rfl rfl ?_ | refine VV.mul rfl ?_ | refine VV.sub rfl (by omega) ?_ | refine VV.shl1 rfl (by omega) ?_ | refine VV.shl rfl ⟨by omega, by omega⟩ ?_ | refine VV.shr rfl ⟨by omega, by omega⟩ ?_ | refine VV.and rfl ?_ | refine VV.s rfl ?_  | refine VV.b (b_ltT (by omega) (by omega)) ?_ | refine VV.b (b_ltF (by omega) (by omega)) ?_ | refine VV.b (b_geT (by omega) (by omega)) ?_ | refine VV.b (b_geF (by omega) (by omega)) ?_ | refine VV.b (b_gtT (by omega) (by omega)) ?_ | refine VV.b (b_gtF (by omega) (by omega)) ?_ | refine VV.b (b_leT (by omega) (by omega)) ?_ | refine VV.b (b_leF (by omega) (by omega)) ?_ | refine VV.b (b_eqT (by omega) (by omega)) ?_ | refine VV.b (b_eqF (by omega) (by omega)) ?_ | refine VV.b (b_neT (by omega) (by omega)) ?_ | refine VV.b (b_neF (by omega) (by omega)) ?_)
    exact VV.r rfl q
  rw [decide_eq_true c2] at q
  repeat refine VV.s rfl ?_
  refine VV.i (fun c3 => ?_) (fun c3 => ?_)
  · rw [decide_eq_true c3] at q
    repeat (first | refine VV.add rfl ?_ | refine VV.inc rfl rfl rfl ?_ | refine VV.mul rfl ?_ | refine VV.sub rfl (by omega) ?_ | refine VV.shl1 rfl (by omega) ?_ | refine VV.shl rfl ⟨by omega, by omega⟩ ?_ | refine VV.shr rfl ⟨by omega, by omega⟩ ?_ | refine VV.and rfl ?_ | refine VV.s rfl ?_  | refine VV.b (b_ltT (by omega) (by omega)) ?_ | refine VV.b (b_ltF (by omega) (by omega)) ?_ | refine VV.b (b_geT (by omega) (by omega)) ?_ | refine VV.b (b_geF (by omega) (by omega)) ?_ | refine VV.b (b_gtT (by omega) (by omega)) ?_ | refine VV.b (b_gtF (by omega) (by omega)) ?_ | refine VV.b (b_leT (by omega) (by omega)) ?_ | refine VV.b (b_leF (by omega) (by omega)) ?_ | refine VV.b (b_eqT (by omega) (by omega)) ?_ | refine VV.b (b_eqF (by omega) (by omega)) ?_ | refine VV.b (b_neT (by omega) (by omega)) ?_ | refine VV.b (b_neF (by omega) (by omega)) ?_)
    exact VV.r rfl q
  rw [decide_eq_false c3] at q
  refine VV.s rfl ?_
  refine VV.s rfl ?_
  refine VV.cv rfl (rdG hg).1 ?_
  refine c_sets hg hn h4 ?_
  repeat refine VV.s rfl ?_
  refine VV.i (fun c4 => ?_) (fun c4 => ?_)
  case refine_2 =>
    rw [decide_eq_false c4] at q
    repeat (first | refine VV.add rfl ?_ | refine VV.inc rfl rfl rfl ?_ | refine VV.mul rfl ?_ | refine VV.sub rfl (by omega) ?_ | refine VV.shl1 rfl (by omega) ?_ | refine VV.shl rfl ⟨by omega, by omega⟩ ?_ | refine VV.shr rfl ⟨by omega, by omega⟩ ?_ | refine VV.and rfl ?_ | refine VV.s rfl ?_  | refine VV.b (b_ltT (by omega) (by omega)) ?_ | refine VV.b (b_ltF (by omega) (by omega)) ?_ | refine VV.b (b_geT (by omega) (by omega)) ?_ | refine VV.b (b_geF (by omega) (by omega)) ?_ | refine VV.b (b_gtT (by omega) (by omega)) ?_ | refine VV.b (b_gtF (by omega) (by omega)) ?_ | refine VV.b (b_leT (by omega) (by omega)) ?_ | refine VV.b (b_leF (by omega) (by omega)) ?_ | refine VV.b (b_eqT (by omega) (by omega)) ?_ | refine VV.b (b_eqF (by omega) (by omega)) ?_ | refine VV.b (b_neT (by omega) (by omega)) ?_ | refine VV.b (b_neF (by omega) (by omega)) ?_)
    exact VV.r rfl q
  rw [decide_eq_true c4] at q
  obtain ⟨R, r1, r2, rfl⟩ := nI_ge1 c1
  obtain ⟨C, k1, k2, rfl⟩ := nI_ge1 c3
  have r3 : R < 2 ^ n := (nI_ltI r1 (by omega)).mp c2
  have k3 : C < 2 ^ n := (nI_ltI k1 (by omega)).mp c4
  rw [nI_clamp (by omega), nI_clamp (by omega)] at q
  have p1 : pop4 R ≤ 4 := by unfold pop4; omega
  have p2 : pop4 C ≤ 4 := by unfold pop4; omega
  repeat refine VV.s rfl ?_
  refine VV.c rfl ?_
  refine c_bitCount (by omega) ?_
  repeat refine VV.s rfl ?_
  refine VV.c rfl ?_
  refine c_bitCount (by omega) ?_
  repeat refine VV.s rfl ?_
  by_cases c5 : pop4 R = pop4 C
  · rw [decide_eq_true c5] at q
    repeat (first | refine VV.add rfl ?_ | refine VV.inc rfl rfl rfl ?_ | refine VV.mul rfl ?_ | refine VV.sub rfl (by omega) ?_ | refine VV.shl1 rfl (by omega) ?_ | refine VV.shl rfl ⟨by omega, by omega⟩ ?_ | refine VV.shr rfl ⟨by omega, by omega⟩ ?_ | refine VV.and rfl ?_ | refine VV.s rfl ?_  | refine VV.b (b_ltT (by omega) (by omega)) ?_ | refine VV.b (b_ltF (by omega) (by omega)) ?_ | refine VV.b (b_geT (by omega) (by omega)) ?_ | refine VV.b (b_geF (by omega) (by omega)) ?_ | refine VV.b (b_gtT (by omega) (by omega)) ?_ | refine VV.b (b_gtF (by omega) (by omega)) ?_ | refine VV.b (b_leT (by omega) (by omega)) ?_ | refine VV.b (b_leF (by omega) (by omega)) ?_ | refine VV.b (b_eqT (by omega) (by omega)) ?_ | refine VV.b (b_eqF (by omega) (by omega)) ?_ | refine VV.b (b_neT (by omega) (by omega)) ?_ | refine VV.b (b_neF (by omega) (by omega)) ?_)
    exact VV.r rfl q
  · rw [decide_eq_false c5] at q
    repeat (first | refine VV.add rfl ?_ | refine VV.inc rfl rfl rfl ?_ | refine VV.mul rfl ?_ | refine VV.sub rfl (by omega) ?_ | refine VV.shl1 rfl (by omega) ?_ | refine VV.shl rfl ⟨by omega, by omega⟩ ?_ | refine VV.shr rfl ⟨by omega, by omega⟩ ?_ | refine VV.and rfl ?_ | refine VV.s rfl ?_  | refine VV.b (b_ltT (by omega) (by omega)) ?_ | refine VV.b (b_ltF (by omega) (by omega)) ?_ | refine VV.b (b_geT (by omega) (by omega)) ?_ | refine VV.b (b_geF (by omega) (by omega)) ?_ | refine VV.b (b_gtT (by omega) (by omega)) ?_ | refine VV.b (b_gtF (by omega) (by omega)) ?_ | refine VV.b (b_leT (by omega) (by omega)) ?_ | refine VV.b (b_leF (by omega) (by omega)) ?_ | refine VV.b (b_eqT (by omega) (by omega)) ?_ | refine VV.b (b_eqF (by omega) (by omega)) ?_ | refine VV.b (b_neT (by omega) (by omega)) ?_ | refine VV.b (b_neF (by omega) (by omega)) ?_)
    exact VV.r rfl q
theorem c_block {l o : Nat} (hl : l < 4) (h1 : 1 ≤ o) (h2 : o ≤ l + 1) {h : Hp} (q : Q (some (.int (nI (blk l o)))) h) : CC d M_Grid_block [.ref g, .int (nI l), .int (nI o)] h Q := by
  refine CC.of rfl ?_
  have hp : 2 ^ o ≤ 2 ^ 4 := Nat.pow_le_pow_right (by omega) (by omega)
  have hp2 : 0 < 2 ^ o := Nat.two_pow_pos o
  repeat (first | refine VV.add rfl ?_ | refine VV.inc rfl rfl rfl ?_ | refine VV.mul rfl ?_ | refine VV.sub rfl (by omega) ?_ | refine VV.shl1 rfl (by omega) ?_ | refine VV.shl rfl ⟨by omega, by omega⟩ ?_ | refine VV.shr rfl ⟨by omega, by omega⟩ ?_ | refine VV.and rfl ?_ | refine VV.s rfl ?_  | refine VV.b (b_ltT (by omega) (by omega)) ?_ | refine VV.b (b_ltF (by omega) (by omega)) ?_ | refine VV.b (b_geT (by omega) (by omega)) ?_ | refine VV.b (b_geF (by omega) (by omega)) ?_ | refine VV.b (b_gtT (by omega) (by omega)) ?_ | refine VV.b (b_gtF (by omega) (by omega)) ?_ | refine VV.b (b_leT (by omega) (by omega)) ?_ | refine VV.b (b_leF (by omega) (by omega)) ?_ | refine VV.b (b_eqT (by omega) (by omega)) ?_ | refine VV.b (b_eqF (by omega) (by omega)) ?_ | refine VV.b (b_neT (by omega) (by omega)) ?_ | refine VV.b (b_neF (by omega) (by omega)) ?_)
  exact VV.r rfl q
theorem c_firstMinor (hg : (lkp tabG g).isSome = true) (hn : τ (100 * g + 2) = nI n) (h4 : n ≤ 4) {f0 : Nat → Int64} {i j : Nat} (hi : i < n) (hj : j < n) (q : ∀ f, Q (some (.long (fmn (B (g + 1)) i j))) (HH S τ A (up B (g + 2) f))) : CC (d + 3) M_Grid_firstMinor [.ref g, .int (nI i), .int (nI j)] (HH S τ A (up B (g + 2) f0)) Q := by
  refine CC.of rfl ?_
  have m1 : min i j ≤ i := Nat.min_le_left _ _
  have m2 : min i j ≤ j := Nat.min_le_right _ _
  obtain ⟨k1, k2⟩ := t_blk h4 hi (show 1 ≤ min i j + 1 by omega) (by omega)
  obtain ⟨k3, k4⟩ := t_blk h4 hj (show 1 ≤ min i j + 1 by omega) (by omega)
  refine VV.s rfl ?_
  refine VV.s rfl ?_
  refine VV.mini rfl ⟨by omega, by omega⟩ (by decide) ?_
  repeat (first | refine VV.add rfl ?_ | refine VV.inc rfl rfl rfl ?_ | refine VV.mul rfl ?_ | refine VV.sub rfl (by omega) ?_ | refine VV.shl1 rfl (by omega) ?_ | refine VV.shl rfl ⟨by omega, by omega⟩ ?_ | refine VV.shr rfl ⟨by omega, by omega⟩ ?_ | refine VV.and rfl ?_ | refine VV.s rfl ?_  | refine VV.b (b_ltT (by omega) (by omega)) ?_ | refine VV.b (b_ltF (by omega) (by omega)) ?_ | refine VV.b (b_geT (by omega) (by omega)) ?_ | refine VV.b (b_geF (by omega) (by omega)) ?_ | refine VV.b (b_gtT (by omega) (by omega)) ?_ | refine VV.b (b_gtF (by omega) (by omega)) ?_ | refine VV.b (b_leT (by omega) (by omega)) ?_ | refine VV.b (b_leF (by omega) (by omega)) ?_ | refine VV.b (b_eqT (by omega) (by omega)) ?_ | refine VV.b (b_eqF (by omega) (by omega)) ?_ | refine VV.b (b_neT (by omega) (by omega)) ?_ | refine VV.b (b_neF (by omega) (by omega)) ?_)
  refine VV.cv rfl (rdG hg).1 ?_
  refine c_block (by omega) (by omega) (by omega) ?_
  repeat (first | refine VV.add rfl ?_ | refine VV.inc rfl rfl rfl ?_ | refine VV.mul rfl ?_ | refine VV.sub rfl (by omega) ?_ | refine VV.shl1 rfl (by omega) ?_ | refine VV.shl rfl ⟨by omega, by omega⟩ ?_ | refine VV.shr rfl ⟨by omega, by omega⟩ ?_ | refine VV.and rfl ?_ | refine VV.s rfl ?_  | refine VV.b (b_ltT (by omega) (by omega)) ?_ | refine VV.b (b_ltF (by omega) (by omega)) ?_ | refine VV.b (b_geT (by omega) (by omega)) ?_ | refine VV.b (b_geF (by omega) (by omega)) ?_ | refine VV.b (b_gtT (by omega) (by omega)) ?_ | refine VV.b (b_gtF (by omega) (by omega)) ?_ | refine VV.b (b_leT (by omega) (by omega)) ?_ | refine VV.b (b_leF (by omega) (by omega)) ?_ | refine VV.b (b_eqT (by omega) (by omega)) ?_ | refine VV.b (b_eqF (by omega) (by omega)) ?_ | refine VV.b (b_neT (by omega) (by omega)) ?_ | refine VV.b (b_neF (by omega) (by omega)) ?_)
  refine VV.cv rfl (rdG hg).1 ?_
  refine c_block (by omega) (by omega) (by omega) ?_
  refine VV.cv rfl (rdG hg).1 ?_
  refine c_detP hg hn h4 k1 k3 (by omega) (fun f => ?_)
  repeat refine VV.s rfl ?_
  exact VV.r rfl (q f)
end GL4
