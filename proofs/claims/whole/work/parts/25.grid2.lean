/-! a Grid: spots, swaps, minors -/
/-- a spot is there -/
def spB (n : Nat) (x : Int32) : Bool := !(decide (x < nI 0)) && (decide (x.toNatClampNeg / 10 < n) && decide (x.toNatClampNeg % 10 < n))
theorem spB_nI {n k : Nat} (hk : k < 2147483648) : spB n (nI k) = (decide (k / 10 < n) && decide (k % 10 < n)) := by
  unfold spB
  rw [nI_clamp (by omega), decide_eq_false (fun z => absurd ((nI_ltI (by omega) (by omega)).mp z) (by omega))]
  rfl
theorem neg_div {x : Int32} (h : x < nI 0) : x / nI 10 < nI 0 ∨ (x / nI 10 = nI 0 ∧ x - x / nI 10 * nI 10 < nI 0) := by
  have h1 : x.toInt < 0 := by
    have := Int32.lt_iff_toInt_lt.mp h
    exact this
  by_cases h2 : x / nI 10 < nI 0
  · exact Or.inl h2
  · right
    have h3 : (x / nI 10).toInt = x.toInt.tdiv 10 := by
      rw [Int32.toInt_div_of_ne_right x (nI 10) (by decide)]
      rfl
    have h4 : ¬ (x / nI 10).toInt < 0 := fun z => h2 (Int32.lt_iff_toInt_lt.mpr z)
    have h5 : x.toInt.tdiv 10 = 0 := by
      rw [h3] at h4
      have : x.toInt.tdiv 10 ≤ 0 := by
        have h7 : x.toInt = -(-x.toInt) := by omega
        rw [h7, Int.neg_tdiv]
        have := Int.tdiv_nonneg (a := -x.toInt) (b := 10) (by omega) (by omega)
        omega
      omega
    have h6 : x / nI 10 = nI 0 := Int32.toInt_inj.mp (by rw [h3, h5]; rfl)
    refine ⟨h6, ?_⟩
    rw [h6, show nI 0 * nI 10 = 0 from rfl, Int32.sub_zero]
    exact h
theorem spB_neg {n : Nat} {x : Int32} (h : x < nI 0) : spB n x = false := by
  unfold spB
  rw [decide_eq_true h]
  rfl
section GL2
variable {S : Cl} {τ : Nat → Int32} {A : Nat → Nat → Int32} {B : Nat → Nat → Int64}
variable {d g n : Nat} {Q : Option Value → Hp → Prop}
theorem c_hasSpot (hg : (lkp tabG g).isSome = true) (hn : τ (100 * g + 2) = nI n) (h4 : n ≤ 4) {x : Int32} (q : Q (some (.int (bI (spB n x)))) (HH S τ A B)) : CC (d + 1) M_Grid_hasSpot [.ref g, .int x] (HH S τ A B) Q := by
  refine CC.of rfl ?_
  repeat refine VV.s rfl ?_
  refine VV.c rfl ?_
  refine c_rowOf ?_
  refine VV.cv rfl (rdG hg).1 ?_
  by_cases hx : x < nI 0
  · rw [spB_neg hx] at q
    rcases neg_div hx with h1 | ⟨h1, h2⟩
    · refine c_isLine_lt (x := x / nI 10) hg hn h4 h1 ?_
      repeat (first | refine VV.add rfl ?_ | refine VV.inc rfl rfl rfl ?_ | refine VV.mul rfl ?_ | refine VV.sub rfl (by omega) ?_ | refine VV.shl1 rfl (by omega) ?_ | refine VV.shl rfl ⟨by omega, by omega⟩ ?_ | refine VV.shr rfl ⟨by omega, by omega⟩ ?_ | refine VV.and rfl ?_ | refine VV.s rfl ?_  | refine VV.b (b_ltT (by omega) (by omega)) ?_ | refine VV.b (b_ltF (by omega) (by omega)) ?_ | refine VV.b (b_geT (by omega) (by omega)) ?_ | refine VV.b (b_geF (by omega) (by omega)) ?_ | refine VV.b (b_gtT (by omega) (by omega)) ?_ | refine VV.b (b_gtF (by omega) (by omega)) ?_ | refine VV.b (b_leT (by omega) (by omega)) ?_ | refine VV.b (b_leF (by omega) (by omega)) ?_ | refine VV.b (b_eqT (by omega) (by omega)) ?_ | refine VV.b (b_eqF (by omega) (by omega)) ?_ | refine VV.b (b_neT (by omega) (by omega)) ?_ | refine VV.b (b_neF (by omega) (by omega)) ?_)
      exact VV.r rfl q
    · rw [h1]
      refine c_isLine hg hn h4 (by omega) ?_
      by_cases hn0 : 0 < n
      · rw [decide_eq_true hn0]
        show VV _ _ _ _ [.int (nI 1)] _ _
        repeat (first | refine VV.add rfl ?_ | refine VV.inc rfl rfl rfl ?_ | refine VV.mul rfl ?_ | refine VV.sub rfl (by omega) ?_ | refine VV.shl1 rfl (by omega) ?_ | refine VV.shl rfl ⟨by omega, by omega⟩ ?_ | refine VV.shr rfl ⟨by omega, by omega⟩ ?_ | refine VV.and rfl ?_ | refine VV.s rfl ?_  | refine VV.b (b_ltT (by omega) (by omega)) ?_ | refine VV.b (b_ltF (by omega) (by omega)) ?_ | refine VV.b (b_geT (by omega) (by omega)) ?_ | refine VV.b (b_geF (by omega) (by omega)) ?_ | refine VV.b (b_gtT (by omega) (by omega)) ?_ | refine VV.b (b_gtF (by omega) (by omega)) ?_ | refine VV.b (b_leT (by omega) (by omega)) ?_ | refine VV.b (b_leF (by omega) (by omega)) ?_ | refine VV.b (b_eqT (by omega) (by omega)) ?_ | refine VV.b (b_eqF (by omega) (by omega)) ?_ | refine VV.b (b_neT (by omega) (by omega)) ?_ | refine VV.b (b_neF (by omega) (by omega)) ?_)
        refine VV.c rfl ?_
        refine c_columnOf ?_
        refine VV.cv rfl (rdG hg).1 ?_
        refine c_isLine_lt hg hn h4 h2 ?_
        repeat (first | refine VV.add rfl ?_ | refine VV.inc rfl rfl rfl ?_ | refine VV.mul rfl ?_ | refine VV.sub rfl (by omega) ?_ | refine VV.shl1 rfl (by omega) ?_ | refine VV.shl rfl ⟨by omega, by omega⟩ ?_ | refine VV.shr rfl ⟨by omega, by omega⟩ ?_ | refine VV.and rfl ?_ | refine VV.s rfl ?_  | refine VV.b (b_ltT (by omega) (by omega)) ?_ | refine VV.b (b_ltF (by omega) (by omega)) ?_ | refine VV.b (b_geT (by omega) (by omega)) ?_ | refine VV.b (b_geF (by omega) (by omega)) ?_ | refine VV.b (b_gtT (by omega) (by omega)) ?_ | refine VV.b (b_gtF (by omega) (by omega)) ?_ | refine VV.b (b_leT (by omega) (by omega)) ?_ | refine VV.b (b_leF (by omega) (by omega)) ?_ | refine VV.b (b_eqT (by omega) (by omega)) ?_ | refine VV.b (b_eqF (by omega) (by omega)) ?_ | refine VV.b (b_neT (by omega) (by omega)) ?_ | refine VV.b (b_neF (by omega) (by omega)) ?_)
        exact VV.r rfl q
      · rw [decide_eq_false hn0]
        show VV _ _ _ _ [.int (nI 0)] _ _
        repeat (first | refine VV.add rfl ?_ | refine VV.inc rfl rfl rfl ?_ | refine VV.mul rfl ?_ | refine VV.sub rfl (by omega) ?_ | refine VV.shl1 rfl (by omega) ?_ | refine VV.shl rfl ⟨by omega, by omega⟩ ?_ | refine VV.shr rfl ⟨by omega, by omega⟩ ?_ | refine VV.and rfl ?_ | refine VV.s rfl ?_  | refine VV.b (b_ltT (by omega) (by omega)) ?_ | refine VV.b (b_ltF (by omega) (by omega)) ?_ | refine VV.b (b_geT (by omega) (by omega)) ?_ | refine VV.b (b_geF (by omega) (by omega)) ?_ | refine VV.b (b_gtT (by omega) (by omega)) ?_ | refine VV.b (b_gtF (by omega) (by omega)) ?_ | refine VV.b (b_leT (by omega) (by omega)) ?_ | refine VV.b (b_leF (by omega) (by omega)) ?_ | refine VV.b (b_eqT (by omega) (by omega)) ?_ | refine VV.b (b_eqF (by omega) (by omega)) ?_ | refine VV.b (b_neT (by omega) (by omega)) ?_ | refine VV.b (b_neF (by omega) (by omega)) ?_)
        exact VV.r rfl q
  · obtain ⟨k, hk, rfl⟩ : ∃ k, k < 2147483648 ∧ x = nI k := (nI_or x).elim (fun z => absurd z hx) id
    rw [spB_nI hk] at q
    rw [pk_div hk (by omega) (by omega)]
    refine c_isLine hg hn h4 (by omega) ?_
    by_cases h1 : k / 10 < n
    · rw [decide_eq_true h1] at q ⊢
      show VV _ _ _ _ [.int (nI 1)] _ _
      repeat (first | refine VV.add rfl ?_ | refine VV.inc rfl rfl rfl ?_ | refine VV.mul rfl ?_ | refine VV.sub rfl (by omega) ?_ | refine VV.shl1 rfl (by omega) ?_ | refine VV.shl rfl ⟨by omega, by omega⟩ ?_ | refine VV.shr rfl ⟨by omega, by omega⟩ ?_ | refine VV.and rfl ?_ | refine VV.s rfl ?_  | refine VV.b (b_ltT (by omega) (by omega)) ?_ | refine VV.b (b_ltF (by omega) (by omega)) ?_ | refine VV.b (b_geT (by omega) (by omega)) ?_ | refine VV.b (b_geF (by omega) (by omega)) ?_ | refine VV.b (b_gtT (by omega) (by omega)) ?_ | refine VV.b (b_gtF (by omega) (by omega)) ?_ | refine VV.b (b_leT (by omega) (by omega)) ?_ | refine VV.b (b_leF (by omega) (by omega)) ?_ | refine VV.b (b_eqT (by omega) (by omega)) ?_ | refine VV.b (b_eqF (by omega) (by omega)) ?_ | refine VV.b (b_neT (by omega) (by omega)) ?_ | refine VV.b (b_neF (by omega) (by omega)) ?_)
      refine VV.c rfl ?_
      refine c_columnOf ?_
      rw [pk_rem hk (by omega) (by omega)]
      refine VV.cv rfl (rdG hg).1 ?_
      refine c_isLine hg hn h4 (by omega) ?_
      by_cases h2 : k % 10 < n
      · rw [decide_eq_true h2] at q ⊢
        show VV _ _ _ _ [.int (nI 1)] _ _
        repeat (first | refine VV.add rfl ?_ | refine VV.inc rfl rfl rfl ?_ | refine VV.mul rfl ?_ | refine VV.sub rfl (by omega) ?_ | refine VV.shl1 rfl (by omega) ?_ | refine VV.shl rfl ⟨by omega, by omega⟩ ?_ | refine VV.shr rfl ⟨by omega, by omega⟩ ?_ | refine VV.and rfl ?_ | refine VV.s rfl ?_  | refine VV.b (b_ltT (by omega) (by omega)) ?_ | refine VV.b (b_ltF (by omega) (by omega)) ?_ | refine VV.b (b_geT (by omega) (by omega)) ?_ | refine VV.b (b_geF (by omega) (by omega)) ?_ | refine VV.b (b_gtT (by omega) (by omega)) ?_ | refine VV.b (b_gtF (by omega) (by omega)) ?_ | refine VV.b (b_leT (by omega) (by omega)) ?_ | refine VV.b (b_leF (by omega) (by omega)) ?_ | refine VV.b (b_eqT (by omega) (by omega)) ?_ | refine VV.b (b_eqF (by omega) (by omega)) ?_ | refine VV.b (b_neT (by omega) (by omega)) ?_ | refine VV.b (b_neF (by omega) (by omega)) ?_)
        exact VV.r rfl q
      · rw [decide_eq_false h2] at q ⊢
        show VV _ _ _ _ [.int (nI 0)] _ _
        repeat (first | refine VV.add rfl ?_ | refine VV.inc rfl rfl rfl ?_ | refine VV.mul rfl ?_ | refine VV.sub rfl (by omega) ?_ | refine VV.shl1 rfl (by omega) ?_ | refine VV.shl rfl ⟨by omega, by omega⟩ ?_ | refine VV.shr rfl ⟨by omega, by omega⟩ ?_ | refine VV.and rfl ?_ | refine VV.s rfl ?_  | refine VV.b (b_ltT (by omega) (by omega)) ?_ | refine VV.b (b_ltF (by omega) (by omega)) ?_ | refine VV.b (b_geT (by omega) (by omega)) ?_ | refine VV.b (b_geF (by omega) (by omega)) ?_ | refine VV.b (b_gtT (by omega) (by omega)) ?_ | refine VV.b (b_gtF (by omega) (by omega)) ?_ | refine VV.b (b_leT (by omega) (by omega)) ?_ | refine VV.b (b_leF (by omega) (by omega)) ?_ | refine VV.b (b_eqT (by omega) (by omega)) ?_ | refine VV.b (b_eqF (by omega) (by omega)) ?_ | refine VV.b (b_neT (by omega) (by omega)) ?_ | refine VV.b (b_neF (by omega) (by omega)) ?_)
        exact VV.r rfl q
    · rw [decide_eq_false h1] at q ⊢
      show VV _ _ _ _ [.int (nI 0)] _ _
      repeat (first | refine VV.add rfl ?_ | refine VV.inc rfl rfl rfl ?_ | refine VV.mul rfl ?_ | refine VV.sub rfl (by omega) ?_ | refine VV.shl1 rfl (by omega) ?_ | refine VV.shl rfl ⟨by omega, by omega⟩ ?_ | refine VV.shr rfl ⟨by omega, by omega⟩ ?_ | refine VV.and rfl ?_ | refine VV.s rfl ?_  | refine VV.b (b_ltT (by omega) (by omega)) ?_ | refine VV.b (b_ltF (by omega) (by omega)) ?_ | refine VV.b (b_geT (by omega) (by omega)) ?_ | refine VV.b (b_geF (by omega) (by omega)) ?_ | refine VV.b (b_gtT (by omega) (by omega)) ?_ | refine VV.b (b_gtF (by omega) (by omega)) ?_ | refine VV.b (b_leT (by omega) (by omega)) ?_ | refine VV.b (b_leF (by omega) (by omega)) ?_ | refine VV.b (b_eqT (by omega) (by omega)) ?_ | refine VV.b (b_eqF (by omega) (by omega)) ?_ | refine VV.b (b_neT (by omega) (by omega)) ?_ | refine VV.b (b_neF (by omega) (by omega)) ?_)
      exact VV.r rfl q
theorem c_atSpot (hg : (lkp tabG g).isSome = true) (hn : τ (100 * g + 2) = nI n) (h4 : n ≤ 4) {i j : Nat} (hi : i < n) (hj : j < n) (q : Q (some (.long (B (g + 1) (4 * i + j)))) (HH S τ A B)) : CC (d + 1) M_Grid_atSpot [.ref g, .int (nI (10 * i + j))] (HH S τ A B) Q := by
  refine CC.of rfl ?_
  repeat refine VV.s rfl ?_
  refine VV.c rfl ?_
  refine c_rowOf ?_
  rw [pk_div (by omega) (by omega) (by omega), show (10 * i + j) / 10 = i by omega]
  repeat refine VV.s rfl ?_
  refine VV.c rfl ?_
  refine c_columnOf ?_
  rw [pk_rem (by omega) (by omega) (by omega), show (10 * i + j) % 10 = j by omega]
  refine VV.cv rfl (rdG hg).1 ?_
  refine c_at hg hn h4 hi hj ?_
  repeat refine VV.s rfl ?_
  exact VV.r rfl q
theorem c_putSpot (hg : (lkp tabG g).isSome = true) (hn : τ (100 * g + 2) = nI n) (h4 : n ≤ 4) {i j : Nat} {x : Int64} (hi : i < n) (hj : j < n) (q : Q none (HH S τ A (up B (g + 1) (up (B (g + 1)) (4 * i + j) x)))) : CC (d + 1) M_Grid_putSpot [.ref g, .int (nI (10 * i + j)), .long x] (HH S τ A B) Q := by
  refine CC.of rfl ?_
  repeat refine VV.s rfl ?_
  refine VV.c rfl ?_
  refine c_rowOf ?_
  rw [pk_div (by omega) (by omega) (by omega), show (10 * i + j) / 10 = i by omega]
  repeat refine VV.s rfl ?_
  refine VV.c rfl ?_
  refine c_columnOf ?_
  rw [pk_rem (by omega) (by omega) (by omega), show (10 * i + j) % 10 = j by omega]
  repeat refine VV.s rfl ?_
  refine VV.cv rfl (rdG hg).1 ?_
  refine c_put hg hn h4 hi hj ?_
  repeat refine VV.s rfl ?_
  exact VV.r rfl q
theorem c_swap (hg : (lkp tabG g).isSome = true) (hn : τ (100 * g + 2) = nI n) (h4 : n ≤ 4) {i j k l : Nat} (hi : i < n) (hj : j < n) (hk : k < n) (hl : l < n) (q : Q none (HH S τ A (up B (g + 1) (up (up (B (g + 1)) (4 * i + j) (B (g + 1) (4 * k + l))) (4 * k + l) (B (g + 1) (4 * i + j)))))) : CC (d + 1) M_Grid_swap [.ref g, .int (nI i), .int (nI j), .int (nI k), .int (nI l)] (HH S τ A B) Q := by
  refine CC.of rfl ?_
  repeat refine VV.s rfl ?_
  refine VV.cv rfl (rdG hg).1 ?_
  refine c_at hg hn h4 hi hj ?_
  repeat refine VV.s rfl ?_
  refine VV.cv rfl (rdG hg).1 ?_
  refine c_at hg hn h4 hk hl ?_
  refine VV.cv rfl (rdG hg).1 ?_
  refine c_put hg hn h4 hi hj ?_
  repeat refine VV.s rfl ?_
  refine VV.cv rfl (rdG hg).1 ?_
  refine c_put hg hn h4 hk hl ?_
  repeat refine VV.s rfl ?_
  rw [up_up, up_s]
  exact VV.r rfl q
theorem c_partOf (hg : (lkp tabG g).isSome = true) (hn : τ (100 * g + 2) = nI n) (h4 : n ≤ 4) {k : Nat} (hk : k < 16) (q : Q (some (.long (B (g + 2) k))) (HH S τ A B)) : CC d M_Grid_partOf [.ref g, .int (nI k)] (HH S τ A B) Q := by
  refine CC.of rfl ?_
  repeat (first | refine VV.add rfl ?_ | refine VV.inc rfl rfl rfl ?_ | refine VV.mul rfl ?_ | refine VV.sub rfl (by omega) ?_ | refine VV.shl1 rfl (by omega) ?_ | refine VV.shl rfl ⟨by omega, by omega⟩ ?_ | refine VV.shr rfl ⟨by omega, by omega⟩ ?_ | refine VV.and rfl ?_ | refine VV.s rfl ?_ | refine VV.gn rfl (rdG hg).1 rfl hn ?_ | refine VV.g rfl (rdG hg).1 rfl ?_ | refine VV.b (b_ltT (by omega) (by omega)) ?_ | refine VV.b (b_ltF (by omega) (by omega)) ?_ | refine VV.b (b_geT (by omega) (by omega)) ?_ | refine VV.b (b_geF (by omega) (by omega)) ?_ | refine VV.b (b_gtT (by omega) (by omega)) ?_ | refine VV.b (b_gtF (by omega) (by omega)) ?_ | refine VV.b (b_leT (by omega) (by omega)) ?_ | refine VV.b (b_leF (by omega) (by omega)) ?_ | refine VV.b (b_eqT (by omega) (by omega)) ?_ | refine VV.b (b_eqF (by omega) (by omega)) ?_ | refine VV.b (b_neT (by omega) (by omega)) ?_ | refine VV.b (b_neF (by omega) (by omega)) ?_)
  refine VV.jl rfl (rdG (S := S) (τ := τ) (A := A) (B := B) hg).2.2.2.1 ?_
  rw [(rdG (S := S) (τ := τ) (A := A) (B := B) hg).2.2.2.2.1]
  repeat (first | refine VV.add rfl ?_ | refine VV.inc rfl rfl rfl ?_ | refine VV.mul rfl ?_ | refine VV.sub rfl (by omega) ?_ | refine VV.shl1 rfl (by omega) ?_ | refine VV.shl rfl ⟨by omega, by omega⟩ ?_ | refine VV.shr rfl ⟨by omega, by omega⟩ ?_ | refine VV.and rfl ?_ | refine VV.s rfl ?_ | refine VV.gn rfl (rdG hg).1 rfl hn ?_ | refine VV.g rfl (rdG hg).1 rfl ?_ | refine VV.b (b_ltT (by omega) (by omega)) ?_ | refine VV.b (b_ltF (by omega) (by omega)) ?_ | refine VV.b (b_geT (by omega) (by omega)) ?_ | refine VV.b (b_geF (by omega) (by omega)) ?_ | refine VV.b (b_gtT (by omega) (by omega)) ?_ | refine VV.b (b_gtF (by omega) (by omega)) ?_ | refine VV.b (b_leT (by omega) (by omega)) ?_ | refine VV.b (b_leF (by omega) (by omega)) ?_ | refine VV.b (b_eqT (by omega) (by omega)) ?_ | refine VV.b (b_eqF (by omega) (by omega)) ?_ | refine VV.b (b_neT (by omega) (by omega)) ?_ | refine VV.b (b_neF (by omega) (by omega)) ?_)
  refine VV.ja rfl (rdG (S := S) (τ := τ) (A := A) (B := B) hg).2.2.2.1 rfl (by rw [(rdG (S := S) (τ := τ) (A := A) (B := B) hg).2.2.2.2.1]; omega) ?_
  repeat refine VV.s rfl ?_
  exact VV.r rfl q
theorem c_isOfOrder {r c k : Nat} (hr : r < 16) (hc : c < 16) (hk : k < 16) (q : Q (some (.int (bI (decide (pop4 r = k ∧ pop4 c = k))))) (HH S τ A B)) : CC (d + 1) M_Grid_isOfOrder [.ref g, .int (nI r), .int (nI c), .int (nI k)] (HH S τ A B) Q := by
  refine CC.of rfl ?_
  have p1 : pop4 r ≤ 4 := by unfold pop4; omega
  have p2 : pop4 c ≤ 4 := by unfold pop4; omega
  repeat refine VV.s rfl ?_
  refine VV.c rfl ?_
  refine c_bitCount hr ?_
  repeat refine VV.s rfl ?_
  refine VV.eq (by omega) (by omega) (fun e1 => ?_) (fun e1 => ?_)
  · repeat refine VV.s rfl ?_
    refine VV.c rfl ?_
    refine c_bitCount hc ?_
    repeat refine VV.s rfl ?_
    refine VV.eq (by omega) (by omega) (fun e2 => ?_) (fun e2 => ?_)
    · rw [decide_eq_true ⟨e1, e2⟩] at q
      repeat refine VV.s rfl ?_
      exact VV.r rfl q
    · rw [decide_eq_false (fun z => e2 z.2)] at q
      repeat refine VV.s rfl ?_
      exact VV.r rfl q
  · rw [decide_eq_false (fun z => e1 z.1)] at q
    repeat refine VV.s rfl ?_
    exact VV.r rfl q
end GL2
