/-! the class's calls: rows that come, chips, texts, counts -/
section SW
variable {d u : Nat} {L : Lc} {st : List Value} {h : Hp} {Q : Option Value → Hp → Prop}
theorem VV.sw {x : Int32} {k t dd : Nat} {l : List (Nat × Nat)} (a : x = nI k → VV d u t L st h Q) (f : x ≠ nI k → VV d u (b_sw x dd l) L st h Q) : VV d u (b_sw x dd ((k, t) :: l)) L st h Q := VV.i a f
theorem VV.sw0 {x : Int32} {dd : Nat} (a : VV d u dd L st h Q) : VV d u (b_sw x dd []) L st h Q := a
end SW
theorem chB_0 {n : Nat} {x : Int32} : chB n (nI 0) x = ltB (n - 1) x := by
  unfold chB
  rw [decide_eq_true (show nI 0 = nI 0 ∨ nI 0 = nI 1 from Or.inl rfl), decide_eq_false (show ¬ nI 0 = nI 2 by decide)]
  cases ltB (n - 1) x <;> rfl
theorem chB_1 {n : Nat} {x : Int32} : chB n (nI 1) x = ltB (n - 1) x := by
  unfold chB
  rw [decide_eq_true (show nI 1 = nI 0 ∨ nI 1 = nI 1 from Or.inr rfl), decide_eq_false (show ¬ nI 1 = nI 2 by decide)]
  cases ltB (n - 1) x <;> rfl
theorem chB_2 {n : Nat} {x : Int32} : chB n (nI 2) x = ltB n x := by
  unfold chB
  rw [decide_eq_false (show ¬ (nI 2 = nI 0 ∨ nI 2 = nI 1) by decide), decide_eq_true (show nI 2 = nI 2 from rfl)]
  cases ltB n x <;> rfl
theorem chB_n {n : Nat} {a x : Int32} (h0 : a ≠ nI 0) (h1 : a ≠ nI 1) (h2 : a ≠ nI 2) : chB n a x = false := by
  unfold chB
  rw [decide_eq_false (show ¬ (a = nI 0 ∨ a = nI 1) from fun z => z.elim h0 h1), decide_eq_false h2]
  rfl
theorem evB_0 {n : Nat} {x : Int32} : evB n (nI 0) x = spB n x := by
  unfold evB
  rw [decide_eq_true (show nI 0 = nI 0 ∨ nI 0 = nI 1 from Or.inl rfl), decide_eq_false (show ¬ nI 0 = nI 2 by decide), decide_eq_false (show ¬ nI 0 = nI 3 by decide)]
  cases spB n x <;> rfl
theorem evB_1 {n : Nat} {x : Int32} : evB n (nI 1) x = spB n x := by
  unfold evB
  rw [decide_eq_true (show nI 1 = nI 0 ∨ nI 1 = nI 1 from Or.inr rfl), decide_eq_false (show ¬ nI 1 = nI 2 by decide), decide_eq_false (show ¬ nI 1 = nI 3 by decide)]
  cases spB n x <;> rfl
theorem evB_2 {n : Nat} {x : Int32} : evB n (nI 2) x = ltB (n - 1) x := by
  unfold evB
  rw [decide_eq_false (show ¬ (nI 2 = nI 0 ∨ nI 2 = nI 1) by decide), decide_eq_true (show nI 2 = nI 2 from rfl), decide_eq_false (show ¬ nI 2 = nI 3 by decide)]
  cases ltB (n - 1) x <;> rfl
theorem evB_3 {n : Nat} {x : Int32} : evB n (nI 3) x = true := by
  unfold evB
  rw [decide_eq_false (show ¬ (nI 3 = nI 0 ∨ nI 3 = nI 1) by decide), decide_eq_false (show ¬ nI 3 = nI 2 by decide), decide_eq_true (show nI 3 = nI 3 from rfl)]
  rfl
theorem evB_n {n : Nat} {a x : Int32} (h0 : a ≠ nI 0) (h1 : a ≠ nI 1) (h2 : a ≠ nI 2) (h3 : a ≠ nI 3) : evB n a x = false := by
  unfold evB
  rw [decide_eq_false (show ¬ (a = nI 0 ∨ a = nI 1) from fun z => z.elim h0 h1), decide_eq_false h2, decide_eq_false h3]
  rfl
theorem cx_behind {S : Cl} {τ : Nat → Int32} {A : Nat → Nat → Int32} {B : Nat → Nat → Int64} {d : Nat} {Q : Option Value → Hp → Prop} {n : Nat} (hn : τ (100 * 3 + 2) = nI n) (h1 : 1 ≤ n) (h4 : n ≤ 4) {x : Int32} (q : Q (some (.int (bI (ltB (n - 1) x)))) (HH S τ A B)) : CC (d + 1) M_T_isLineWithOneBehind [.ref 1, .int x] (HH S τ A B) Q := by
  refine CC.of rfl ?_
  rcases nI_or x with hx | ⟨k, hk, rfl⟩
  · rw [ltB_neg hx] at q
    refine VV.s rfl ?_
    refine VV.s rfl ?_
    refine VV.t hx ?_
    repeat refine VV.s rfl ?_
    exact VV.r rfl q
  · rw [ltB_nI hk] at q
    repeat (first | refine VV.add rfl ?_ | refine VV.inc rfl rfl rfl ?_ | refine VV.mul rfl ?_ | refine VV.sub rfl (by omega) ?_ | refine VV.shl1 rfl (by omega) ?_ | refine VV.shl rfl ⟨by omega, by omega⟩ ?_ | refine VV.shr rfl ⟨by omega, by omega⟩ ?_ | refine VV.and rfl ?_ | refine VV.div rfl ⟨by omega, by omega, by omega⟩ ?_ | refine VV.rem rfl ⟨by omega, by omega, by omega⟩ ?_ | refine VV.s rfl ?_  | refine VV.b (b_ltT (by omega) (by omega)) ?_ | refine VV.b (b_ltF (by omega) (by omega)) ?_ | refine VV.b (b_geT (by omega) (by omega)) ?_ | refine VV.b (b_geF (by omega) (by omega)) ?_ | refine VV.b (b_gtT (by omega) (by omega)) ?_ | refine VV.b (b_gtF (by omega) (by omega)) ?_ | refine VV.b (b_leT (by omega) (by omega)) ?_ | refine VV.b (b_leF (by omega) (by omega)) ?_ | refine VV.b (b_eqT (by omega) (by omega)) ?_ | refine VV.b (b_eqF (by omega) (by omega)) ?_ | refine VV.b (b_neT (by omega) (by omega)) ?_ | refine VV.b (b_neF (by omega) (by omega)) ?_)
    (refine VV.c rfl ?_; refine c_lines (g := 3) rfl hn h4 ?_)
    by_cases c : k < n - 1
    · rw [decide_eq_true c] at q
      repeat (first | refine VV.add rfl ?_ | refine VV.inc rfl rfl rfl ?_ | refine VV.mul rfl ?_ | refine VV.sub rfl (by omega) ?_ | refine VV.shl1 rfl (by omega) ?_ | refine VV.shl rfl ⟨by omega, by omega⟩ ?_ | refine VV.shr rfl ⟨by omega, by omega⟩ ?_ | refine VV.and rfl ?_ | refine VV.div rfl ⟨by omega, by omega, by omega⟩ ?_ | refine VV.rem rfl ⟨by omega, by omega, by omega⟩ ?_ | refine VV.s rfl ?_  | refine VV.b (b_ltT (by omega) (by omega)) ?_ | refine VV.b (b_ltF (by omega) (by omega)) ?_ | refine VV.b (b_geT (by omega) (by omega)) ?_ | refine VV.b (b_geF (by omega) (by omega)) ?_ | refine VV.b (b_gtT (by omega) (by omega)) ?_ | refine VV.b (b_gtF (by omega) (by omega)) ?_ | refine VV.b (b_leT (by omega) (by omega)) ?_ | refine VV.b (b_leF (by omega) (by omega)) ?_ | refine VV.b (b_eqT (by omega) (by omega)) ?_ | refine VV.b (b_eqF (by omega) (by omega)) ?_ | refine VV.b (b_neT (by omega) (by omega)) ?_ | refine VV.b (b_neF (by omega) (by omega)) ?_)
      exact VV.r rfl q
    · rw [decide_eq_false c] at q
      repeat (first | refine VV.add rfl ?_ | refine VV.inc rfl rfl rfl ?_ | refine VV.mul rfl ?_ | refine VV.sub rfl (by omega) ?_ | refine VV.shl1 rfl (by omega) ?_ | refine VV.shl rfl ⟨by omega, by omega⟩ ?_ | refine VV.shr rfl ⟨by omega, by omega⟩ ?_ | refine VV.and rfl ?_ | refine VV.div rfl ⟨by omega, by omega, by omega⟩ ?_ | refine VV.rem rfl ⟨by omega, by omega, by omega⟩ ?_ | refine VV.s rfl ?_  | refine VV.b (b_ltT (by omega) (by omega)) ?_ | refine VV.b (b_ltF (by omega) (by omega)) ?_ | refine VV.b (b_geT (by omega) (by omega)) ?_ | refine VV.b (b_geF (by omega) (by omega)) ?_ | refine VV.b (b_gtT (by omega) (by omega)) ?_ | refine VV.b (b_gtF (by omega) (by omega)) ?_ | refine VV.b (b_leT (by omega) (by omega)) ?_ | refine VV.b (b_leF (by omega) (by omega)) ?_ | refine VV.b (b_eqT (by omega) (by omega)) ?_ | refine VV.b (b_eqF (by omega) (by omega)) ?_ | refine VV.b (b_neT (by omega) (by omega)) ?_ | refine VV.b (b_neF (by omega) (by omega)) ?_)
      exact VV.r rfl q
theorem cx_chipPlace {S : Cl} {τ : Nat → Int32} {A : Nat → Nat → Int32} {B : Nat → Nat → Int64} {d : Nat} {Q : Option Value → Hp → Prop} {n : Nat} (hn : τ (100 * 3 + 2) = nI n) (h1 : 1 ≤ n) (h4 : n ≤ 4) {a x : Int32} (q : Q (some (.int (bI (chB n a x)))) (HH S τ A B)) : CC (d + 2) M_T_isChipPlace [.ref 1, .int a, .int x] (HH S τ A B) Q := by
  refine CC.of rfl ?_
  refine VV.s rfl ?_
  refine VV.s rfl ?_
  refine VV.sw (fun e => ?_) (fun e0 => VV.sw (fun e => ?_) (fun e1 => VV.sw (fun e => ?_) (fun e2 => VV.sw0 ?_)))
  · subst e
    rw [chB_0] at q
    repeat refine VV.s rfl ?_
    (refine VV.c rfl ?_; refine cx_behind hn h1 h4 ?_)
    cases hb : ltB (n - 1) x <;> rw [hb] at q <;> exact VV.r rfl q
  · subst e
    rw [chB_1] at q
    repeat refine VV.s rfl ?_
    (refine VV.c rfl ?_; refine cx_behind hn h1 h4 ?_)
    cases hb : ltB (n - 1) x <;> rw [hb] at q <;> exact VV.r rfl q
  · subst e
    rw [chB_2] at q
    rcases nI_or x with hx | ⟨k, hk, rfl⟩
    · rw [ltB_neg hx] at q
      refine VV.s rfl ?_
      refine VV.s rfl ?_
      refine VV.t hx ?_
      repeat refine VV.s rfl ?_
      exact VV.r rfl q
    · rw [ltB_nI hk] at q
      repeat (first | refine VV.add rfl ?_ | refine VV.inc rfl rfl rfl ?_ | refine VV.mul rfl ?_ | refine VV.sub rfl (by omega) ?_ | refine VV.shl1 rfl (by omega) ?_ | refine VV.shl rfl ⟨by omega, by omega⟩ ?_ | refine VV.shr rfl ⟨by omega, by omega⟩ ?_ | refine VV.and rfl ?_ | refine VV.div rfl ⟨by omega, by omega, by omega⟩ ?_ | refine VV.rem rfl ⟨by omega, by omega, by omega⟩ ?_ | refine VV.s rfl ?_  | refine VV.b (b_ltT (by omega) (by omega)) ?_ | refine VV.b (b_ltF (by omega) (by omega)) ?_ | refine VV.b (b_geT (by omega) (by omega)) ?_ | refine VV.b (b_geF (by omega) (by omega)) ?_ | refine VV.b (b_gtT (by omega) (by omega)) ?_ | refine VV.b (b_gtF (by omega) (by omega)) ?_ | refine VV.b (b_leT (by omega) (by omega)) ?_ | refine VV.b (b_leF (by omega) (by omega)) ?_ | refine VV.b (b_eqT (by omega) (by omega)) ?_ | refine VV.b (b_eqF (by omega) (by omega)) ?_ | refine VV.b (b_neT (by omega) (by omega)) ?_ | refine VV.b (b_neF (by omega) (by omega)) ?_)
      (refine VV.c rfl ?_; refine c_lines (g := 3) rfl hn h4 ?_)
      by_cases c : k < n
      · rw [decide_eq_true c] at q
        repeat (first | refine VV.add rfl ?_ | refine VV.inc rfl rfl rfl ?_ | refine VV.mul rfl ?_ | refine VV.sub rfl (by omega) ?_ | refine VV.shl1 rfl (by omega) ?_ | refine VV.shl rfl ⟨by omega, by omega⟩ ?_ | refine VV.shr rfl ⟨by omega, by omega⟩ ?_ | refine VV.and rfl ?_ | refine VV.div rfl ⟨by omega, by omega, by omega⟩ ?_ | refine VV.rem rfl ⟨by omega, by omega, by omega⟩ ?_ | refine VV.s rfl ?_  | refine VV.b (b_ltT (by omega) (by omega)) ?_ | refine VV.b (b_ltF (by omega) (by omega)) ?_ | refine VV.b (b_geT (by omega) (by omega)) ?_ | refine VV.b (b_geF (by omega) (by omega)) ?_ | refine VV.b (b_gtT (by omega) (by omega)) ?_ | refine VV.b (b_gtF (by omega) (by omega)) ?_ | refine VV.b (b_leT (by omega) (by omega)) ?_ | refine VV.b (b_leF (by omega) (by omega)) ?_ | refine VV.b (b_eqT (by omega) (by omega)) ?_ | refine VV.b (b_eqF (by omega) (by omega)) ?_ | refine VV.b (b_neT (by omega) (by omega)) ?_ | refine VV.b (b_neF (by omega) (by omega)) ?_)
        exact VV.r rfl q
      · rw [decide_eq_false c] at q
        repeat (first | refine VV.add rfl ?_ | refine VV.inc rfl rfl rfl ?_ | refine VV.mul rfl ?_ | refine VV.sub rfl (by omega) ?_ | refine VV.shl1 rfl (by omega) ?_ | refine VV.shl rfl ⟨by omega, by omega⟩ ?_ | refine VV.shr rfl ⟨by omega, by omega⟩ ?_ | refine VV.and rfl ?_ | refine VV.div rfl ⟨by omega, by omega, by omega⟩ ?_ | refine VV.rem rfl ⟨by omega, by omega, by omega⟩ ?_ | refine VV.s rfl ?_  | refine VV.b (b_ltT (by omega) (by omega)) ?_ | refine VV.b (b_ltF (by omega) (by omega)) ?_ | refine VV.b (b_geT (by omega) (by omega)) ?_ | refine VV.b (b_geF (by omega) (by omega)) ?_ | refine VV.b (b_gtT (by omega) (by omega)) ?_ | refine VV.b (b_gtF (by omega) (by omega)) ?_ | refine VV.b (b_leT (by omega) (by omega)) ?_ | refine VV.b (b_leF (by omega) (by omega)) ?_ | refine VV.b (b_eqT (by omega) (by omega)) ?_ | refine VV.b (b_eqF (by omega) (by omega)) ?_ | refine VV.b (b_neT (by omega) (by omega)) ?_ | refine VV.b (b_neF (by omega) (by omega)) ?_)
        exact VV.r rfl q
  · rw [chB_n e0 e1 e2] at q
    refine VV.s rfl ?_
    exact VV.r rfl q
theorem cx_eventPlace {S : Cl} {τ : Nat → Int32} {A : Nat → Nat → Int32} {B : Nat → Nat → Int64} {d : Nat} {Q : Option Value → Hp → Prop} {n : Nat} (hn : τ (100 * 3 + 2) = nI n) (h1 : 1 ≤ n) (h4 : n ≤ 4) {a x : Int32} (q : Q (some (.int (bI (evB n a x)))) (HH S τ A B)) : CC (d + 2) M_T_isEventPlace [.ref 1, .int a, .int x] (HH S τ A B) Q := by
  refine CC.of rfl ?_
  refine VV.s rfl ?_
  refine VV.s rfl ?_
  refine VV.sw (fun e => ?_) (fun e0 => VV.sw (fun e => ?_) (fun e1 => VV.sw (fun e => ?_) (fun e2 => VV.sw (fun e => ?_) (fun e3 => VV.sw0 ?_))))
  · subst e
    rw [evB_0] at q
    repeat refine VV.s rfl ?_
    (refine VV.c rfl ?_; refine c_hasSpot (g := 3) rfl hn h4 ?_)
    cases hb : spB n x <;> rw [hb] at q <;> exact VV.r rfl q
  · subst e
    rw [evB_1] at q
    repeat refine VV.s rfl ?_
    (refine VV.c rfl ?_; refine c_hasSpot (g := 3) rfl hn h4 ?_)
    cases hb : spB n x <;> rw [hb] at q <;> exact VV.r rfl q
  · subst e
    rw [evB_2] at q
    repeat refine VV.s rfl ?_
    (refine VV.c rfl ?_; refine cx_behind hn h1 h4 ?_)
    cases hb : ltB (n - 1) x <;> rw [hb] at q <;> exact VV.r rfl q
  · subst e
    rw [evB_3] at q
    repeat refine VV.s rfl ?_
    exact VV.r rfl q
  · rw [evB_n e0 e1 e2 e3] at q
    refine VV.s rfl ?_
    exact VV.r rfl q
def oCount (s : St) (x : Int32) : Int32 × St := (if x = nI 0 then nI (s.c.m 3) else if x = nI 1 then nI (s.c.m 4) else if x = nI 2 then nI (s.c.m 5) else if x = nI 3 then nI s.tm else -(nI 2), s)
section X2
variable {d : Nat} {s : St}
theorem x_chip (i : IV s) {a x v : Int32} : KX (d + 3) M_T_chip [.ref 1, .int a, .int x, .int v] s (oChip s a x v) := by
  intro S τ A B Q h q
  unfold oChip at q
  have hn : τ (100 * 3 + 2) = nI s.c.n := h.now.n
  have h4 := i.c.n4
  have h2 := i.c.n2
  refine CC.of rfl ?_
  repeat refine VV.s rfl ?_
  (refine VV.c rfl ?_; refine cx_chipPlace hn (by omega) h4 ?_)
  cases hb : chB s.c.n a x with
  | false =>
    rw [hb] at q
    repeat (first | refine VV.add rfl ?_ | refine VV.inc rfl rfl rfl ?_ | refine VV.mul rfl ?_ | refine VV.sub rfl (by omega) ?_ | refine VV.shl1 rfl (by omega) ?_ | refine VV.shl rfl ⟨by omega, by omega⟩ ?_ | refine VV.shr rfl ⟨by omega, by omega⟩ ?_ | refine VV.and rfl ?_ | refine VV.div rfl ⟨by omega, by omega, by omega⟩ ?_ | refine VV.rem rfl ⟨by omega, by omega, by omega⟩ ?_ | refine VV.s rfl ?_  | refine VV.b (b_ltT (by omega) (by omega)) ?_ | refine VV.b (b_ltF (by omega) (by omega)) ?_ | refine VV.b (b_geT (by omega) (by omega)) ?_ | refine VV.b (b_geF (by omega) (by omega)) ?_ | refine VV.b (b_gtT (by omega) (by omega)) ?_ | refine VV.b (b_gtF (by omega) (by omega)) ?_ | refine VV.b (b_leT (by omega) (by omega)) ?_ | refine VV.b (b_leF (by omega) (by omega)) ?_ | refine VV.b (b_eqT (by omega) (by omega)) ?_ | refine VV.b (b_eqF (by omega) (by omega)) ?_ | refine VV.b (b_neT (by omega) (by omega)) ?_ | refine VV.b (b_neF (by omega) (by omega)) ?_)
    exact VV.r rfl (q τ A B h FX.refl)
  | true =>
    rw [hb, if_pos rfl] at q
    show VV _ _ _ _ [.int (nI 1)] _ _
    refine VV.s rfl ?_
    refine VV.b (b_neT (by omega) (by omega)) ?_
    refine VV.s rfl ?_
    refine VV.s rfl ?_
    refine VV.s rfl ?_
    refine VV.i (fun c1 => ?_) (fun c1 => ?_)
    · rw [rgB_lo c1] at q
      repeat refine VV.s rfl ?_
      exact VV.r rfl (q τ A B h FX.refl)
    refine VV.s rfl ?_
    refine VV.s rfl ?_
    refine VV.s rfl ?_
    refine VV.i (fun c2 => ?_) (fun c2 => ?_)
    · rw [rgB_hi c2] at q
      repeat refine VV.s rfl ?_
      exact VV.r rfl (q τ A B h FX.refl)
    rw [rgB_in c1 c2, if_pos rfl] at q
    repeat refine VV.s rfl ?_
    (refine VV.c rfl ?_; refine cr_isFull (o := 6) rfl h.now.chip.h i.c.cm ?_)
    unfold oAdd at q
    by_cases cf : s.c.m 1 = 12
    · rw [if_pos cf] at q
      rw [show decide (s.c.m 1 = mostR 6) = true from decide_eq_true cf]
      repeat (first | refine VV.add rfl ?_ | refine VV.inc rfl rfl rfl ?_ | refine VV.mul rfl ?_ | refine VV.sub rfl (by omega) ?_ | refine VV.shl1 rfl (by omega) ?_ | refine VV.shl rfl ⟨by omega, by omega⟩ ?_ | refine VV.shr rfl ⟨by omega, by omega⟩ ?_ | refine VV.and rfl ?_ | refine VV.div rfl ⟨by omega, by omega, by omega⟩ ?_ | refine VV.rem rfl ⟨by omega, by omega, by omega⟩ ?_ | refine VV.s rfl ?_  | refine VV.b (b_ltT (by omega) (by omega)) ?_ | refine VV.b (b_ltF (by omega) (by omega)) ?_ | refine VV.b (b_geT (by omega) (by omega)) ?_ | refine VV.b (b_geF (by omega) (by omega)) ?_ | refine VV.b (b_gtT (by omega) (by omega)) ?_ | refine VV.b (b_gtF (by omega) (by omega)) ?_ | refine VV.b (b_leT (by omega) (by omega)) ?_ | refine VV.b (b_leF (by omega) (by omega)) ?_ | refine VV.b (b_eqT (by omega) (by omega)) ?_ | refine VV.b (b_eqF (by omega) (by omega)) ?_ | refine VV.b (b_neT (by omega) (by omega)) ?_ | refine VV.b (b_neF (by omega) (by omega)) ?_)
      exact VV.r rfl (q τ A B h FX.refl)
    · rw [if_neg cf] at q
      rw [show decide (s.c.m 1 = mostR 6) = false from decide_eq_false cf]
      repeat (first | refine VV.add rfl ?_ | refine VV.inc rfl rfl rfl ?_ | refine VV.mul rfl ?_ | refine VV.sub rfl (by omega) ?_ | refine VV.shl1 rfl (by omega) ?_ | refine VV.shl rfl ⟨by omega, by omega⟩ ?_ | refine VV.shr rfl ⟨by omega, by omega⟩ ?_ | refine VV.and rfl ?_ | refine VV.div rfl ⟨by omega, by omega, by omega⟩ ?_ | refine VV.rem rfl ⟨by omega, by omega, by omega⟩ ?_ | refine VV.s rfl ?_  | refine VV.b (b_ltT (by omega) (by omega)) ?_ | refine VV.b (b_ltF (by omega) (by omega)) ?_ | refine VV.b (b_geT (by omega) (by omega)) ?_ | refine VV.b (b_geF (by omega) (by omega)) ?_ | refine VV.b (b_gtT (by omega) (by omega)) ?_ | refine VV.b (b_gtF (by omega) (by omega)) ?_ | refine VV.b (b_leT (by omega) (by omega)) ?_ | refine VV.b (b_leF (by omega) (by omega)) ?_ | refine VV.b (b_eqT (by omega) (by omega)) ?_ | refine VV.b (b_eqF (by omega) (by omega)) ?_ | refine VV.b (b_neT (by omega) (by omega)) ?_ | refine VV.b (b_neF (by omega) (by omega)) ?_)
      (refine VV.c rfl ?_; refine cr_add (o := 6) rfl h.now.chip.h (Nat.lt_of_le_of_ne i.c.cm cf) ?_)
      repeat refine VV.s rfl ?_
      have f : FN τ A B (up τ (100 * 6 + 2) (nI (s.c.m 1 + 1))) (up A (6 + 1) (up (up (up (A (6 + 1)) (3 * s.c.m 1) a) (3 * s.c.m 1 + 1) x) (3 * s.c.m 1 + 2) v)) B := FN.ut (by decide) (FN.ua (by decide) FN.refl)
      exact VV.r rfl (q _ _ _ (h.fn f (RS.mk h.now.n h.now.E h.now.V (h.now.chip.add (x := a) (y := x) (z := v)) h.now.note h.now.seen h.now.event h.now.book)) f.fx)
theorem x_see (i : IV s) {x y v : Int32} : KX (d + 3) M_T_see [.ref 1, .int x, .int y, .int v] s (oSee s x y v) := by
  intro S τ A B Q h q
  unfold oSee at q
  have hn : τ (100 * 3 + 2) = nI s.c.n := h.now.n
  have h4 := i.c.n4
  refine CC.of rfl ?_
  refine VV.s rfl ?_
  refine VV.s rfl ?_
  refine VV.s rfl ?_
  refine VV.i (fun c0 => ?_) (fun c0 => ?_)
  · rw [if_pos c0] at q
    repeat refine VV.s rfl ?_
    (refine VV.c rfl ?_; refine cr_empty (o := 11) rfl ?_)
    repeat refine VV.s rfl ?_
    have f : FN τ A B (up τ 1102 (nI 0)) A B := FN.ut (by decide) FN.refl
    exact VV.r rfl (q _ _ _ (h.fn f (RS.mk h.now.n h.now.E h.now.V h.now.chip h.now.note ⟨rfl, fun k w hk _ => absurd hk (Nat.not_lt_zero k)⟩ h.now.event h.now.book)) f.fx)
  rw [if_neg c0] at q
  repeat refine VV.s rfl ?_
  (refine VV.c rfl ?_; refine c_hasMinor (g := 3) rfl hn h4 ?_)
  cases hb : mnB s.c.n x y with
  | false =>
    rw [hb] at q
    repeat (first | refine VV.add rfl ?_ | refine VV.inc rfl rfl rfl ?_ | refine VV.mul rfl ?_ | refine VV.sub rfl (by omega) ?_ | refine VV.shl1 rfl (by omega) ?_ | refine VV.shl rfl ⟨by omega, by omega⟩ ?_ | refine VV.shr rfl ⟨by omega, by omega⟩ ?_ | refine VV.and rfl ?_ | refine VV.div rfl ⟨by omega, by omega, by omega⟩ ?_ | refine VV.rem rfl ⟨by omega, by omega, by omega⟩ ?_ | refine VV.s rfl ?_  | refine VV.b (b_ltT (by omega) (by omega)) ?_ | refine VV.b (b_ltF (by omega) (by omega)) ?_ | refine VV.b (b_geT (by omega) (by omega)) ?_ | refine VV.b (b_geF (by omega) (by omega)) ?_ | refine VV.b (b_gtT (by omega) (by omega)) ?_ | refine VV.b (b_gtF (by omega) (by omega)) ?_ | refine VV.b (b_leT (by omega) (by omega)) ?_ | refine VV.b (b_leF (by omega) (by omega)) ?_ | refine VV.b (b_eqT (by omega) (by omega)) ?_ | refine VV.b (b_eqF (by omega) (by omega)) ?_ | refine VV.b (b_neT (by omega) (by omega)) ?_ | refine VV.b (b_neF (by omega) (by omega)) ?_)
    exact VV.r rfl (q τ A B h FX.refl)
  | true =>
    rw [hb, if_pos rfl] at q
    show VV _ _ _ _ [.int (nI 1)] _ _
    refine VV.s rfl ?_
    refine VV.b (b_neT (by omega) (by omega)) ?_
    refine VV.s rfl ?_
    refine VV.s rfl ?_
    refine VV.s rfl ?_
    refine VV.i (fun c1 => ?_) (fun c1 => ?_)
    · rw [rgB_lo c1] at q
      repeat refine VV.s rfl ?_
      exact VV.r rfl (q τ A B h FX.refl)
    refine VV.s rfl ?_
    refine VV.s rfl ?_
    refine VV.s rfl ?_
    refine VV.i (fun c2 => ?_) (fun c2 => ?_)
    · rw [rgB_hi c2] at q
      repeat refine VV.s rfl ?_
      exact VV.r rfl (q τ A B h FX.refl)
    rw [rgB_in c1 c2, if_pos rfl] at q
    repeat refine VV.s rfl ?_
    (refine VV.c rfl ?_; refine cr_isFull (o := 11) rfl h.now.seen.h i.c.sm ?_)
    unfold oAdd at q
    by_cases cf : s.c.m 3 = 4
    · rw [if_pos cf] at q
      rw [show decide (s.c.m 3 = mostR 11) = true from decide_eq_true cf]
      repeat (first | refine VV.add rfl ?_ | refine VV.inc rfl rfl rfl ?_ | refine VV.mul rfl ?_ | refine VV.sub rfl (by omega) ?_ | refine VV.shl1 rfl (by omega) ?_ | refine VV.shl rfl ⟨by omega, by omega⟩ ?_ | refine VV.shr rfl ⟨by omega, by omega⟩ ?_ | refine VV.and rfl ?_ | refine VV.div rfl ⟨by omega, by omega, by omega⟩ ?_ | refine VV.rem rfl ⟨by omega, by omega, by omega⟩ ?_ | refine VV.s rfl ?_  | refine VV.b (b_ltT (by omega) (by omega)) ?_ | refine VV.b (b_ltF (by omega) (by omega)) ?_ | refine VV.b (b_geT (by omega) (by omega)) ?_ | refine VV.b (b_geF (by omega) (by omega)) ?_ | refine VV.b (b_gtT (by omega) (by omega)) ?_ | refine VV.b (b_gtF (by omega) (by omega)) ?_ | refine VV.b (b_leT (by omega) (by omega)) ?_ | refine VV.b (b_leF (by omega) (by omega)) ?_ | refine VV.b (b_eqT (by omega) (by omega)) ?_ | refine VV.b (b_eqF (by omega) (by omega)) ?_ | refine VV.b (b_neT (by omega) (by omega)) ?_ | refine VV.b (b_neF (by omega) (by omega)) ?_)
      exact VV.r rfl (q τ A B h FX.refl)
    · rw [if_neg cf] at q
      rw [show decide (s.c.m 3 = mostR 11) = false from decide_eq_false cf]
      repeat (first | refine VV.add rfl ?_ | refine VV.inc rfl rfl rfl ?_ | refine VV.mul rfl ?_ | refine VV.sub rfl (by omega) ?_ | refine VV.shl1 rfl (by omega) ?_ | refine VV.shl rfl ⟨by omega, by omega⟩ ?_ | refine VV.shr rfl ⟨by omega, by omega⟩ ?_ | refine VV.and rfl ?_ | refine VV.div rfl ⟨by omega, by omega, by omega⟩ ?_ | refine VV.rem rfl ⟨by omega, by omega, by omega⟩ ?_ | refine VV.s rfl ?_  | refine VV.b (b_ltT (by omega) (by omega)) ?_ | refine VV.b (b_ltF (by omega) (by omega)) ?_ | refine VV.b (b_geT (by omega) (by omega)) ?_ | refine VV.b (b_geF (by omega) (by omega)) ?_ | refine VV.b (b_gtT (by omega) (by omega)) ?_ | refine VV.b (b_gtF (by omega) (by omega)) ?_ | refine VV.b (b_leT (by omega) (by omega)) ?_ | refine VV.b (b_leF (by omega) (by omega)) ?_ | refine VV.b (b_eqT (by omega) (by omega)) ?_ | refine VV.b (b_eqF (by omega) (by omega)) ?_ | refine VV.b (b_neT (by omega) (by omega)) ?_ | refine VV.b (b_neF (by omega) (by omega)) ?_)
      (refine VV.c rfl ?_; refine cr_add (o := 11) rfl h.now.seen.h (Nat.lt_of_le_of_ne i.c.sm cf) ?_)
      repeat refine VV.s rfl ?_
      have f : FN τ A B (up τ (100 * 11 + 2) (nI (s.c.m 3 + 1))) (up A (11 + 1) (up (up (up (A (11 + 1)) (3 * s.c.m 3) x) (3 * s.c.m 3 + 1) y) (3 * s.c.m 3 + 2) v)) B := FN.ut (by decide) (FN.ua (by decide) FN.refl)
      exact VV.r rfl (q _ _ _ (h.fn f (RS.mk h.now.n h.now.E h.now.V h.now.chip h.now.note (h.now.seen.add (x := x) (y := y) (z := v)) h.now.event h.now.book)) f.fx)
theorem x_event (i : IV s) {a x : Int32} : KX (d + 3) M_T_event [.ref 1, .int a, .int x] s (oEvent s a x) := by
  intro S τ A B Q h q
  unfold oEvent at q
  have hn : τ (100 * 3 + 2) = nI s.c.n := h.now.n
  have h4 := i.c.n4
  have h2 := i.c.n2
  refine CC.of rfl ?_
  refine VV.s rfl ?_
  refine VV.s rfl ?_
  refine VV.s rfl ?_
  refine VV.i (fun c0 => ?_) (fun c0 => ?_)
  · rw [if_pos c0] at q
    repeat refine VV.s rfl ?_
    (refine VV.c rfl ?_; refine cr_empty (o := 13) rfl ?_)
    repeat refine VV.s rfl ?_
    have f : FN τ A B (up τ 1302 (nI 0)) A B := FN.ut (by decide) FN.refl
    exact VV.r rfl (q _ _ _ (h.fn f (RS.mk h.now.n h.now.E h.now.V h.now.chip h.now.note h.now.seen ⟨rfl, fun k w hk _ => absurd hk (Nat.not_lt_zero k)⟩ h.now.book)) f.fx)
  rw [if_neg c0] at q
  repeat refine VV.s rfl ?_
  (refine VV.c rfl ?_; refine cx_eventPlace hn (by omega) h4 ?_)
  cases hb : evB s.c.n a x with
  | false =>
    rw [hb] at q
    repeat (first | refine VV.add rfl ?_ | refine VV.inc rfl rfl rfl ?_ | refine VV.mul rfl ?_ | refine VV.sub rfl (by omega) ?_ | refine VV.shl1 rfl (by omega) ?_ | refine VV.shl rfl ⟨by omega, by omega⟩ ?_ | refine VV.shr rfl ⟨by omega, by omega⟩ ?_ | refine VV.and rfl ?_ | refine VV.div rfl ⟨by omega, by omega, by omega⟩ ?_ | refine VV.rem rfl ⟨by omega, by omega, by omega⟩ ?_ | refine VV.s rfl ?_  | refine VV.b (b_ltT (by omega) (by omega)) ?_ | refine VV.b (b_ltF (by omega) (by omega)) ?_ | refine VV.b (b_geT (by omega) (by omega)) ?_ | refine VV.b (b_geF (by omega) (by omega)) ?_ | refine VV.b (b_gtT (by omega) (by omega)) ?_ | refine VV.b (b_gtF (by omega) (by omega)) ?_ | refine VV.b (b_leT (by omega) (by omega)) ?_ | refine VV.b (b_leF (by omega) (by omega)) ?_ | refine VV.b (b_eqT (by omega) (by omega)) ?_ | refine VV.b (b_eqF (by omega) (by omega)) ?_ | refine VV.b (b_neT (by omega) (by omega)) ?_ | refine VV.b (b_neF (by omega) (by omega)) ?_)
    exact VV.r rfl (q τ A B h FX.refl)
  | true =>
    rw [hb, if_pos rfl] at q
    show VV _ _ _ _ [.int (nI 1)] _ _
    have main : ¬ (a = nI 3 ∧ x ≠ nI 0) → VV (d + 3) M_T_event 40 [some (.ref 1), some (.int a), some (.int x)] [] (HH S τ A B) Q := by
      intro cn
      rw [if_neg cn] at q
      repeat refine VV.s rfl ?_
      (refine VV.c rfl ?_; refine cr_isFull (o := 13) rfl h.now.event.h i.c.em ?_)
      unfold oAdd at q
      by_cases cf : s.c.m 4 = 8
      · rw [if_pos cf] at q
        rw [show decide (s.c.m 4 = mostR 13) = true from decide_eq_true cf]
        repeat (first | refine VV.add rfl ?_ | refine VV.inc rfl rfl rfl ?_ | refine VV.mul rfl ?_ | refine VV.sub rfl (by omega) ?_ | refine VV.shl1 rfl (by omega) ?_ | refine VV.shl rfl ⟨by omega, by omega⟩ ?_ | refine VV.shr rfl ⟨by omega, by omega⟩ ?_ | refine VV.and rfl ?_ | refine VV.div rfl ⟨by omega, by omega, by omega⟩ ?_ | refine VV.rem rfl ⟨by omega, by omega, by omega⟩ ?_ | refine VV.s rfl ?_  | refine VV.b (b_ltT (by omega) (by omega)) ?_ | refine VV.b (b_ltF (by omega) (by omega)) ?_ | refine VV.b (b_geT (by omega) (by omega)) ?_ | refine VV.b (b_geF (by omega) (by omega)) ?_ | refine VV.b (b_gtT (by omega) (by omega)) ?_ | refine VV.b (b_gtF (by omega) (by omega)) ?_ | refine VV.b (b_leT (by omega) (by omega)) ?_ | refine VV.b (b_leF (by omega) (by omega)) ?_ | refine VV.b (b_eqT (by omega) (by omega)) ?_ | refine VV.b (b_eqF (by omega) (by omega)) ?_ | refine VV.b (b_neT (by omega) (by omega)) ?_ | refine VV.b (b_neF (by omega) (by omega)) ?_)
        exact VV.r rfl (q τ A B h FX.refl)
      · rw [if_neg cf] at q
        rw [show decide (s.c.m 4 = mostR 13) = false from decide_eq_false cf]
        repeat (first | refine VV.add rfl ?_ | refine VV.inc rfl rfl rfl ?_ | refine VV.mul rfl ?_ | refine VV.sub rfl (by omega) ?_ | refine VV.shl1 rfl (by omega) ?_ | refine VV.shl rfl ⟨by omega, by omega⟩ ?_ | refine VV.shr rfl ⟨by omega, by omega⟩ ?_ | refine VV.and rfl ?_ | refine VV.div rfl ⟨by omega, by omega, by omega⟩ ?_ | refine VV.rem rfl ⟨by omega, by omega, by omega⟩ ?_ | refine VV.s rfl ?_  | refine VV.b (b_ltT (by omega) (by omega)) ?_ | refine VV.b (b_ltF (by omega) (by omega)) ?_ | refine VV.b (b_geT (by omega) (by omega)) ?_ | refine VV.b (b_geF (by omega) (by omega)) ?_ | refine VV.b (b_gtT (by omega) (by omega)) ?_ | refine VV.b (b_gtF (by omega) (by omega)) ?_ | refine VV.b (b_leT (by omega) (by omega)) ?_ | refine VV.b (b_leF (by omega) (by omega)) ?_ | refine VV.b (b_eqT (by omega) (by omega)) ?_ | refine VV.b (b_eqF (by omega) (by omega)) ?_ | refine VV.b (b_neT (by omega) (by omega)) ?_ | refine VV.b (b_neF (by omega) (by omega)) ?_)
        (refine VV.c rfl ?_; refine cr_add (o := 13) rfl h.now.event.h (Nat.lt_of_le_of_ne i.c.em cf) ?_)
        repeat refine VV.s rfl ?_
        have f : FN τ A B (up τ (100 * 13 + 2) (nI (s.c.m 4 + 1))) (up A (13 + 1) (up (up (up (A (13 + 1)) (3 * s.c.m 4) a) (3 * s.c.m 4 + 1) x) (3 * s.c.m 4 + 2) (nI 0))) B := FN.ut (by decide) (FN.ua (by decide) FN.refl)
        exact VV.r rfl (q _ _ _ (h.fn f (RS.mk h.now.n h.now.E h.now.V h.now.chip h.now.note h.now.seen (h.now.event.add (x := a) (y := x) (z := (nI 0))) h.now.book)) f.fx)
    refine VV.s rfl ?_
    refine VV.b (b_neT (by omega) (by omega)) ?_
    refine VV.s rfl ?_
    refine VV.s rfl ?_
    refine VV.s rfl ?_
    refine VV.i (fun c1 => ?_) (fun c1 => ?_)
    · refine VV.s rfl ?_
      refine VV.s rfl ?_
      refine VV.i (fun c2 => ?_) (fun c2 => ?_)
      · exact main (fun z => z.2 c2)
      · rw [if_pos ⟨c1, c2⟩] at q
        repeat refine VV.s rfl ?_
        exact VV.r rfl (q τ A B h FX.refl)
    · exact main (fun z => c1 z.1)
theorem x_book (i : IV s) {x v : Int32} : KX (d + 3) M_T_book [.ref 1, .int x, .int v] s (oBook s x v) := by
  intro S τ A B Q h q
  unfold oBook at q
  have hn : τ (100 * 3 + 2) = nI s.c.n := h.now.n
  have h4 := i.c.n4
  refine CC.of rfl ?_
  refine VV.s rfl ?_
  refine VV.s rfl ?_
  refine VV.s rfl ?_
  refine VV.i (fun c0 => ?_) (fun c0 => ?_)
  · rw [if_pos c0] at q
    repeat refine VV.s rfl ?_
    (refine VV.c rfl ?_; refine cr_empty (o := 15) rfl ?_)
    repeat refine VV.s rfl ?_
    have f : FN τ A B (up τ 1502 (nI 0)) A B := FN.ut (by decide) FN.refl
    exact VV.r rfl (q _ _ _ (h.fn f (RS.mk h.now.n h.now.E h.now.V h.now.chip h.now.note h.now.seen h.now.event ⟨rfl, fun k w hk _ => absurd hk (Nat.not_lt_zero k)⟩)) f.fx)
  rw [if_neg c0] at q
  repeat refine VV.s rfl ?_
  (refine VV.c rfl ?_; refine c_hasSpot (g := 3) rfl hn h4 ?_)
  cases hb : spB s.c.n x with
  | false =>
    rw [hb] at q
    repeat (first | refine VV.add rfl ?_ | refine VV.inc rfl rfl rfl ?_ | refine VV.mul rfl ?_ | refine VV.sub rfl (by omega) ?_ | refine VV.shl1 rfl (by omega) ?_ | refine VV.shl rfl ⟨by omega, by omega⟩ ?_ | refine VV.shr rfl ⟨by omega, by omega⟩ ?_ | refine VV.and rfl ?_ | refine VV.div rfl ⟨by omega, by omega, by omega⟩ ?_ | refine VV.rem rfl ⟨by omega, by omega, by omega⟩ ?_ | refine VV.s rfl ?_  | refine VV.b (b_ltT (by omega) (by omega)) ?_ | refine VV.b (b_ltF (by omega) (by omega)) ?_ | refine VV.b (b_geT (by omega) (by omega)) ?_ | refine VV.b (b_geF (by omega) (by omega)) ?_ | refine VV.b (b_gtT (by omega) (by omega)) ?_ | refine VV.b (b_gtF (by omega) (by omega)) ?_ | refine VV.b (b_leT (by omega) (by omega)) ?_ | refine VV.b (b_leF (by omega) (by omega)) ?_ | refine VV.b (b_eqT (by omega) (by omega)) ?_ | refine VV.b (b_eqF (by omega) (by omega)) ?_ | refine VV.b (b_neT (by omega) (by omega)) ?_ | refine VV.b (b_neF (by omega) (by omega)) ?_)
    exact VV.r rfl (q τ A B h FX.refl)
  | true =>
    rw [hb, if_pos rfl] at q
    show VV _ _ _ _ [.int (nI 1)] _ _
    refine VV.s rfl ?_
    refine VV.b (b_neT (by omega) (by omega)) ?_
    refine VV.s rfl ?_
    refine VV.s rfl ?_
    refine VV.s rfl ?_
    refine VV.i (fun c1 => ?_) (fun c1 => ?_)
    · rw [rgB_lo c1] at q
      repeat refine VV.s rfl ?_
      exact VV.r rfl (q τ A B h FX.refl)
    refine VV.s rfl ?_
    refine VV.s rfl ?_
    refine VV.s rfl ?_
    refine VV.i (fun c2 => ?_) (fun c2 => ?_)
    · rw [rgB_hi c2] at q
      repeat refine VV.s rfl ?_
      exact VV.r rfl (q τ A B h FX.refl)
    rw [rgB_in c1 c2, if_pos rfl] at q
    repeat refine VV.s rfl ?_
    (refine VV.c rfl ?_; refine cr_isFull (o := 15) rfl h.now.book.h i.c.bm ?_)
    unfold oAdd at q
    by_cases cf : s.c.m 5 = 8
    · rw [if_pos cf] at q
      rw [show decide (s.c.m 5 = mostR 15) = true from decide_eq_true cf]
      repeat (first | refine VV.add rfl ?_ | refine VV.inc rfl rfl rfl ?_ | refine VV.mul rfl ?_ | refine VV.sub rfl (by omega) ?_ | refine VV.shl1 rfl (by omega) ?_ | refine VV.shl rfl ⟨by omega, by omega⟩ ?_ | refine VV.shr rfl ⟨by omega, by omega⟩ ?_ | refine VV.and rfl ?_ | refine VV.div rfl ⟨by omega, by omega, by omega⟩ ?_ | refine VV.rem rfl ⟨by omega, by omega, by omega⟩ ?_ | refine VV.s rfl ?_  | refine VV.b (b_ltT (by omega) (by omega)) ?_ | refine VV.b (b_ltF (by omega) (by omega)) ?_ | refine VV.b (b_geT (by omega) (by omega)) ?_ | refine VV.b (b_geF (by omega) (by omega)) ?_ | refine VV.b (b_gtT (by omega) (by omega)) ?_ | refine VV.b (b_gtF (by omega) (by omega)) ?_ | refine VV.b (b_leT (by omega) (by omega)) ?_ | refine VV.b (b_leF (by omega) (by omega)) ?_ | refine VV.b (b_eqT (by omega) (by omega)) ?_ | refine VV.b (b_eqF (by omega) (by omega)) ?_ | refine VV.b (b_neT (by omega) (by omega)) ?_ | refine VV.b (b_neF (by omega) (by omega)) ?_)
      exact VV.r rfl (q τ A B h FX.refl)
    · rw [if_neg cf] at q
      rw [show decide (s.c.m 5 = mostR 15) = false from decide_eq_false cf]
      repeat (first | refine VV.add rfl ?_ | refine VV.inc rfl rfl rfl ?_ | refine VV.mul rfl ?_ | refine VV.sub rfl (by omega) ?_ | refine VV.shl1 rfl (by omega) ?_ | refine VV.shl rfl ⟨by omega, by omega⟩ ?_ | refine VV.shr rfl ⟨by omega, by omega⟩ ?_ | refine VV.and rfl ?_ | refine VV.div rfl ⟨by omega, by omega, by omega⟩ ?_ | refine VV.rem rfl ⟨by omega, by omega, by omega⟩ ?_ | refine VV.s rfl ?_  | refine VV.b (b_ltT (by omega) (by omega)) ?_ | refine VV.b (b_ltF (by omega) (by omega)) ?_ | refine VV.b (b_geT (by omega) (by omega)) ?_ | refine VV.b (b_geF (by omega) (by omega)) ?_ | refine VV.b (b_gtT (by omega) (by omega)) ?_ | refine VV.b (b_gtF (by omega) (by omega)) ?_ | refine VV.b (b_leT (by omega) (by omega)) ?_ | refine VV.b (b_leF (by omega) (by omega)) ?_ | refine VV.b (b_eqT (by omega) (by omega)) ?_ | refine VV.b (b_eqF (by omega) (by omega)) ?_ | refine VV.b (b_neT (by omega) (by omega)) ?_ | refine VV.b (b_neF (by omega) (by omega)) ?_)
      (refine VV.c rfl ?_; refine cr_add (o := 15) rfl h.now.book.h (Nat.lt_of_le_of_ne i.c.bm cf) ?_)
      repeat refine VV.s rfl ?_
      have f : FN τ A B (up τ (100 * 15 + 2) (nI (s.c.m 5 + 1))) (up A (15 + 1) (up (up (up (A (15 + 1)) (3 * s.c.m 5) x) (3 * s.c.m 5 + 1) v) (3 * s.c.m 5 + 2) (nI 0))) B := FN.ut (by decide) (FN.ua (by decide) FN.refl)
      exact VV.r rfl (q _ _ _ (h.fn f (RS.mk h.now.n h.now.E h.now.V h.now.chip h.now.note h.now.seen h.now.event (h.now.book.add (x := x) (y := v) (z := (nI 0))))) f.fx)
theorem x_count (i : IV s) {x : Int32} : KX (d + 3) M_T_count [.ref 1, .int x] s (oCount s x) := by
  intro S τ A B Q h q
  unfold oCount at q
  refine CC.of rfl ?_
  refine VV.s rfl ?_
  refine VV.s rfl ?_
  refine VV.sw (fun e => ?_) (fun e0 => VV.sw (fun e => ?_) (fun e1 => VV.sw (fun e => ?_) (fun e2 => VV.sw (fun e => ?_) (fun e3 => VV.sw0 ?_))))
  · rw [if_pos e] at q
    repeat refine VV.s rfl ?_
    (refine VV.c rfl ?_; refine cr_held (o := 11) rfl h.now.seen.h ?_)
    exact VV.r rfl (q τ A B h FX.refl)
  · rw [if_neg e0, if_pos e] at q
    repeat refine VV.s rfl ?_
    (refine VV.c rfl ?_; refine cr_held (o := 13) rfl h.now.event.h ?_)
    exact VV.r rfl (q τ A B h FX.refl)
  · rw [if_neg e0, if_neg e1, if_pos e] at q
    repeat refine VV.s rfl ?_
    (refine VV.c rfl ?_; refine cr_held (o := 15) rfl h.now.book.h ?_)
    exact VV.r rfl (q τ A B h FX.refl)
  · rw [if_neg e0, if_neg e1, if_neg e2, if_pos e, ← h.th] at q
    repeat refine VV.s rfl ?_
    refine VV.c rfl ?_
    refine CC.of rfl ?_
    repeat refine VV.s rfl ?_
    exact VV.r rfl (VV.r rfl (q τ A B h FX.refl))
  · rw [if_neg e0, if_neg e1, if_neg e2, if_neg e3] at q
    repeat refine VV.s rfl ?_
    exact VV.r rfl (q τ A B h FX.refl)
end X2
