/-! the reference's call after -/
theorem bd_hap {n a : Nat} {x : Int32} {E : Nat → Int64} (h4 : n ≤ 4) (he : evOk a x) (h : ∀ i j, i < n → j < n → bd (E (4 * i + j)) 99) : ∀ i j, i < n → j < n → bd (hapE n a x E (4 * i + j)) 99 := by
  intro i j hi hj
  have hj4 : j < 4 := Nat.lt_of_lt_of_le hj h4
  unfold hapE
  by_cases c3 : a = 3
  · rw [if_pos c3, show (4 * i + j) / 4 = i by omega, show (4 * i + j) % 4 = j by omega]
    exact h j i hj hi
  · rw [if_neg c3]
    by_cases c2 : a = 2
    · rw [if_pos c2, show (4 * i + j) / 4 = i by omega, show (4 * i + j) % 4 = j by omega]
      by_cases c : x.toNatClampNeg + 1 < n
      · rw [if_pos c]; exact h _ j (swr_lt c hi) hj
      · rw [if_neg c]; exact h i j hi hj
    · rw [if_neg c2]
      by_cases c : x.toNatClampNeg / 10 < n ∧ x.toNatClampNeg % 10 < n
      · rw [if_pos c]
        refine up_b h ?_ i j hi hj
        by_cases c1 : a = 1
        · rw [if_pos c1]; unfold bd; decide
        · rw [if_neg c1]
          have b := h _ _ c.1 c.2
          have b : bd (E (cel x)) 99 := b
          by_cases c4 : lN 99 < E (cel x) + lN 1
          · rw [if_pos c4]; unfold bd; decide
          · rw [if_neg c4]
            have c4 := le99.mp c4
            unfold bd at b ⊢
            rw [Int64.le_iff_toInt_le, pk_lT (by omega), i64_add (by rw [pk_lT (by omega)]; omega), pk_lT (by omega)] at c4
            rw [i64_add (by rw [pk_lT (by omega)]; omega), pk_lT (by omega)]
            omega
      · rw [if_neg c]; exact h i j hi hj
theorem bd_aft {c : Co} (i : IC c) : ∀ k, k ≤ c.m 4 → ∀ a b, a < c.n → b < c.n → bd (aftE c.n (c.r 4) c.E k (4 * a + b)) 99 := by
  intro k
  induction k with
  | zero => intro _ a b ha hb; exact i.E a b ha hb
  | succ k ih =>
    intro hk
    obtain ⟨a, e0, he⟩ := i.ev k (by omega)
    have he : evOk a (c.r 4 k 1) := he
    have ha := he.1
    rw [aftE, e0, nI_clamp (by omega)]
    exact bd_hap i.n4 he (ih (by omega))
section ML
variable {S : Cl} {τ : Nat → Int32} {A : Nat → Nat → Int32} {B : Nat → Nat → Int64}
variable {d n : Nat} {Q : Option Value → Hp → Prop}
theorem cm_happens {a : Nat} {x : Int32} (hn : τ 5800 = nI n) (h1 : 1 ≤ n) (h4 : n ≤ 4) (he : evOk a x) {E : Nat → Int64} (hE : ∀ i j, i < n → j < n → (A 61 (4 * i + j)).toInt64 = E (4 * i + j)) (bE : ∀ i j, i < n → j < n → bd (E (4 * i + j)) 99) (q : ∀ F, (∀ i j, i < n → j < n → (F (4 * i + j)).toInt64 = hapE n a x E (4 * i + j)) → Q none (HH S τ (up A 61 F) B)) : CC (d + 2) M_M_happens [.ref 58, .int (nI a), .int x] (HH S τ A B) Q := by
  obtain ⟨ha, hs, hr⟩ := he
  unfold hapE at q
  refine CC.of rfl ?_
  rcases (show a = 3 ∨ a = 2 ∨ a < 2 by omega) with rfl | rfl | h2
  · rw [if_pos rfl] at q
    repeat (first | refine VV.g58 rfl rfl ?_ | refine VV.pf rfl rfl ?_ | refine VV.add rfl ?_ | refine VV.inc rfl rfl rfl ?_ | refine VV.mul rfl ?_ | refine VV.sub rfl (by omega) ?_ | refine VV.shl1 rfl (by omega) ?_ | refine VV.shl rfl ⟨by omega, by omega⟩ ?_ | refine VV.shr rfl ⟨by omega, by omega⟩ ?_ | refine VV.and rfl ?_ | refine VV.div rfl ⟨by omega, by omega, by omega⟩ ?_ | refine VV.rem rfl ⟨by omega, by omega, by omega⟩ ?_ | refine VV.s rfl ?_  | refine VV.b (b_ltT (by omega) (by omega)) ?_ | refine VV.b (b_ltF (by omega) (by omega)) ?_ | refine VV.b (b_geT (by omega) (by omega)) ?_ | refine VV.b (b_geF (by omega) (by omega)) ?_ | refine VV.b (b_gtT (by omega) (by omega)) ?_ | refine VV.b (b_gtF (by omega) (by omega)) ?_ | refine VV.b (b_leT (by omega) (by omega)) ?_ | refine VV.b (b_leF (by omega) (by omega)) ?_ | refine VV.b (b_eqT (by omega) (by omega)) ?_ | refine VV.b (b_eqF (by omega) (by omega)) ?_ | refine VV.b (b_neT (by omega) (by omega)) ?_ | refine VV.b (b_neF (by omega) (by omega)) ?_)
    (refine VV.c rfl ?_; refine cm_turns (a := 61) rfl rfl (fun F hF => ?_))
    have := q F (fun k l hk hl => by
      have hk4 : k < 4 := Nat.lt_of_lt_of_le hk h4
      have hl4 : l < 4 := Nat.lt_of_lt_of_le hl h4
      rw [hF k l hk4 hl4, show (4 * k + l) / 4 = k by omega, show (4 * k + l) % 4 = l by omega]
      exact hE l k hl hk)
    repeat (first | refine VV.add rfl ?_ | refine VV.inc rfl rfl rfl ?_ | refine VV.mul rfl ?_ | refine VV.sub rfl (by omega) ?_ | refine VV.shl1 rfl (by omega) ?_ | refine VV.shl rfl ⟨by omega, by omega⟩ ?_ | refine VV.shr rfl ⟨by omega, by omega⟩ ?_ | refine VV.and rfl ?_ | refine VV.div rfl ⟨by omega, by omega, by omega⟩ ?_ | refine VV.rem rfl ⟨by omega, by omega, by omega⟩ ?_ | refine VV.s rfl ?_  | refine VV.b (b_ltT (by omega) (by omega)) ?_ | refine VV.b (b_ltF (by omega) (by omega)) ?_ | refine VV.b (b_geT (by omega) (by omega)) ?_ | refine VV.b (b_geF (by omega) (by omega)) ?_ | refine VV.b (b_gtT (by omega) (by omega)) ?_ | refine VV.b (b_gtF (by omega) (by omega)) ?_ | refine VV.b (b_leT (by omega) (by omega)) ?_ | refine VV.b (b_leF (by omega) (by omega)) ?_ | refine VV.b (b_eqT (by omega) (by omega)) ?_ | refine VV.b (b_eqF (by omega) (by omega)) ?_ | refine VV.b (b_neT (by omega) (by omega)) ?_ | refine VV.b (b_neF (by omega) (by omega)) ?_)
    exact VV.r rfl this
  · obtain ⟨r, hr3, rfl⟩ := hr rfl
    rw [if_neg (by decide), if_pos rfl, nI_clamp (by omega)] at q
    by_cases c : r + 1 < n
    · have V := VV.inv (fun l (F : Nat → Int32) => ∀ i j, i < n → j < n → F (4 * i + j) = if j < l then A 61 (4 * swr r i + j) else A 61 (4 * i + j)) (fun l F => ∀ x4, VV (d + 2) M_M_happens 22 [some (.ref 58), some (.int (nI 2)), some (.int (nI r)), some (.int (nI l)), x4] [] (HH S τ (up A 61 F) B) Q) 4 ?_ ?_ 4 0 (A 61) (by omega) (fun i j _ _ => by rw [if_neg (by omega)]) none
      · rw [up_id] at V
        repeat (first | exact V | refine VV.add rfl ?_ | refine VV.inc rfl rfl rfl ?_ | refine VV.mul rfl ?_ | refine VV.sub rfl (by omega) ?_ | refine VV.shl1 rfl (by omega) ?_ | refine VV.shl rfl ⟨by omega, by omega⟩ ?_ | refine VV.shr rfl ⟨by omega, by omega⟩ ?_ | refine VV.and rfl ?_ | refine VV.div rfl ⟨by omega, by omega, by omega⟩ ?_ | refine VV.rem rfl ⟨by omega, by omega, by omega⟩ ?_ | refine VV.s rfl ?_  | refine VV.b (b_ltT (by omega) (by omega)) ?_ | refine VV.b (b_ltF (by omega) (by omega)) ?_ | refine VV.b (b_geT (by omega) (by omega)) ?_ | refine VV.b (b_geF (by omega) (by omega)) ?_ | refine VV.b (b_gtT (by omega) (by omega)) ?_ | refine VV.b (b_gtF (by omega) (by omega)) ?_ | refine VV.b (b_leT (by omega) (by omega)) ?_ | refine VV.b (b_leF (by omega) (by omega)) ?_ | refine VV.b (b_eqT (by omega) (by omega)) ?_ | refine VV.b (b_eqF (by omega) (by omega)) ?_ | refine VV.b (b_neT (by omega) (by omega)) ?_ | refine VV.b (b_neF (by omega) (by omega)) ?_)
      · intro l F hl hI nxt x4
        have := nxt (up (up F (4 * r + l) (F (4 * r + 4 + l))) (4 * r + 4 + l) (F (4 * r + l))) (fun i j hi hj => by
          have hj4 : j < 4 := Nat.lt_of_lt_of_le hj h4
          by_cases e1 : 4 * i + j = 4 * r + 4 + l
          · have a1 : i = r + 1 := by omega
            have a2 : j = l := by omega
            subst a1 a2
            rw [show 4 * (r + 1) + j = 4 * r + 4 + j by omega, up_s, hI r j (by omega) hj, if_neg (Nat.lt_irrefl _), if_pos (by omega)]
            unfold swr
            rw [if_neg (by omega), if_pos rfl]
          · rw [up_n e1]
            by_cases e2 : 4 * i + j = 4 * r + l
            · have a1 : i = r := by omega
              have a2 : j = l := by omega
              subst a1 a2
              rw [up_s, show 4 * i + 4 + j = 4 * (i + 1) + j by omega, hI (i + 1) j c hj, if_neg (Nat.lt_irrefl _), if_pos (by omega)]
              unfold swr
              rw [if_pos rfl]
            · rw [up_n e2, hI i j hi hj]
              by_cases c3 : j < l
              · rw [if_pos c3, if_pos (by omega)]
              · rw [if_neg c3]
                by_cases c4 : j < l + 1
                · rw [if_pos c4]
                  have a2 : j = l := by omega
                  subst a2
                  unfold swr
                  rw [if_neg (by omega), if_neg (by omega)]
                · rw [if_neg c4]) (some (.int (F (4 * r + l))))
        repeat (first | refine VV.g58n rfl rfl hn ?_ | refine VV.g58 rfl rfl ?_ | refine VV.pf rfl rfl ?_ | refine VV.add rfl ?_ | refine VV.inc rfl rfl rfl ?_ | refine VV.mul rfl ?_ | refine VV.sub rfl (by omega) ?_ | refine VV.shl1 rfl (by omega) ?_ | refine VV.shl rfl ⟨by omega, by omega⟩ ?_ | refine VV.shr rfl ⟨by omega, by omega⟩ ?_ | refine VV.and rfl ?_ | refine VV.div rfl ⟨by omega, by omega, by omega⟩ ?_ | refine VV.rem rfl ⟨by omega, by omega, by omega⟩ ?_ | refine VV.s rfl ?_  | refine VV.b (b_ltT (by omega) (by omega)) ?_ | refine VV.b (b_ltF (by omega) (by omega)) ?_ | refine VV.b (b_geT (by omega) (by omega)) ?_ | refine VV.b (b_geF (by omega) (by omega)) ?_ | refine VV.b (b_gtT (by omega) (by omega)) ?_ | refine VV.b (b_gtF (by omega) (by omega)) ?_ | refine VV.b (b_leT (by omega) (by omega)) ?_ | refine VV.b (b_leF (by omega) (by omega)) ?_ | refine VV.b (b_eqT (by omega) (by omega)) ?_ | refine VV.b (b_eqF (by omega) (by omega)) ?_ | refine VV.b (b_neT (by omega) (by omega)) ?_ | refine VV.b (b_neF (by omega) (by omega)) ?_)
        refine VV.ia rfl rfl rfl (show 4 * r + l < 16 by omega) ?_
        rw [up_s]
        repeat (first | refine VV.g58 rfl rfl ?_ | refine VV.pf rfl rfl ?_ | refine VV.add rfl ?_ | refine VV.inc rfl rfl rfl ?_ | refine VV.mul rfl ?_ | refine VV.sub rfl (by omega) ?_ | refine VV.shl1 rfl (by omega) ?_ | refine VV.shl rfl ⟨by omega, by omega⟩ ?_ | refine VV.shr rfl ⟨by omega, by omega⟩ ?_ | refine VV.and rfl ?_ | refine VV.div rfl ⟨by omega, by omega, by omega⟩ ?_ | refine VV.rem rfl ⟨by omega, by omega, by omega⟩ ?_ | refine VV.s rfl ?_  | refine VV.b (b_ltT (by omega) (by omega)) ?_ | refine VV.b (b_ltF (by omega) (by omega)) ?_ | refine VV.b (b_geT (by omega) (by omega)) ?_ | refine VV.b (b_geF (by omega) (by omega)) ?_ | refine VV.b (b_gtT (by omega) (by omega)) ?_ | refine VV.b (b_gtF (by omega) (by omega)) ?_ | refine VV.b (b_leT (by omega) (by omega)) ?_ | refine VV.b (b_leF (by omega) (by omega)) ?_ | refine VV.b (b_eqT (by omega) (by omega)) ?_ | refine VV.b (b_eqF (by omega) (by omega)) ?_ | refine VV.b (b_neT (by omega) (by omega)) ?_ | refine VV.b (b_neF (by omega) (by omega)) ?_)
        refine VV.ia rfl rfl rfl (show 4 * r + 4 + l < 16 by omega) ?_
        rw [up_s]
        refine VV.is rfl rfl rfl (show 4 * r + l < 16 by omega) ?_
        repeat (first | refine VV.g58 rfl rfl ?_ | refine VV.pf rfl rfl ?_ | refine VV.add rfl ?_ | refine VV.inc rfl rfl rfl ?_ | refine VV.mul rfl ?_ | refine VV.sub rfl (by omega) ?_ | refine VV.shl1 rfl (by omega) ?_ | refine VV.shl rfl ⟨by omega, by omega⟩ ?_ | refine VV.shr rfl ⟨by omega, by omega⟩ ?_ | refine VV.and rfl ?_ | refine VV.div rfl ⟨by omega, by omega, by omega⟩ ?_ | refine VV.rem rfl ⟨by omega, by omega, by omega⟩ ?_ | refine VV.s rfl ?_  | refine VV.b (b_ltT (by omega) (by omega)) ?_ | refine VV.b (b_ltF (by omega) (by omega)) ?_ | refine VV.b (b_geT (by omega) (by omega)) ?_ | refine VV.b (b_geF (by omega) (by omega)) ?_ | refine VV.b (b_gtT (by omega) (by omega)) ?_ | refine VV.b (b_gtF (by omega) (by omega)) ?_ | refine VV.b (b_leT (by omega) (by omega)) ?_ | refine VV.b (b_leF (by omega) (by omega)) ?_ | refine VV.b (b_eqT (by omega) (by omega)) ?_ | refine VV.b (b_eqF (by omega) (by omega)) ?_ | refine VV.b (b_neT (by omega) (by omega)) ?_ | refine VV.b (b_neF (by omega) (by omega)) ?_)
        refine VV.is rfl rfl rfl (show 4 * r + 4 + l < 16 by omega) ?_
        rw [up_up, up_up, up_s, up_s]
        repeat (first | exact this | refine VV.add rfl ?_ | refine VV.inc rfl rfl rfl ?_ | refine VV.mul rfl ?_ | refine VV.sub rfl (by omega) ?_ | refine VV.shl1 rfl (by omega) ?_ | refine VV.shl rfl ⟨by omega, by omega⟩ ?_ | refine VV.shr rfl ⟨by omega, by omega⟩ ?_ | refine VV.and rfl ?_ | refine VV.div rfl ⟨by omega, by omega, by omega⟩ ?_ | refine VV.rem rfl ⟨by omega, by omega, by omega⟩ ?_ | refine VV.s rfl ?_  | refine VV.b (b_ltT (by omega) (by omega)) ?_ | refine VV.b (b_ltF (by omega) (by omega)) ?_ | refine VV.b (b_geT (by omega) (by omega)) ?_ | refine VV.b (b_geF (by omega) (by omega)) ?_ | refine VV.b (b_gtT (by omega) (by omega)) ?_ | refine VV.b (b_gtF (by omega) (by omega)) ?_ | refine VV.b (b_leT (by omega) (by omega)) ?_ | refine VV.b (b_leF (by omega) (by omega)) ?_ | refine VV.b (b_eqT (by omega) (by omega)) ?_ | refine VV.b (b_eqF (by omega) (by omega)) ?_ | refine VV.b (b_neT (by omega) (by omega)) ?_ | refine VV.b (b_neF (by omega) (by omega)) ?_)
      · intro F hF x4
        have := q F (fun k l hk hl => by
          have hl4 : l < 4 := Nat.lt_of_lt_of_le hl h4
          rw [hF k l hk hl, if_pos hl4, if_pos c, show (4 * k + l) / 4 = k by omega, show (4 * k + l) % 4 = l by omega]
          exact hE _ l (swr_lt c hk) hl)
        repeat (first | refine VV.add rfl ?_ | refine VV.inc rfl rfl rfl ?_ | refine VV.mul rfl ?_ | refine VV.sub rfl (by omega) ?_ | refine VV.shl1 rfl (by omega) ?_ | refine VV.shl rfl ⟨by omega, by omega⟩ ?_ | refine VV.shr rfl ⟨by omega, by omega⟩ ?_ | refine VV.and rfl ?_ | refine VV.div rfl ⟨by omega, by omega, by omega⟩ ?_ | refine VV.rem rfl ⟨by omega, by omega, by omega⟩ ?_ | refine VV.s rfl ?_  | refine VV.b (b_ltT (by omega) (by omega)) ?_ | refine VV.b (b_ltF (by omega) (by omega)) ?_ | refine VV.b (b_geT (by omega) (by omega)) ?_ | refine VV.b (b_geF (by omega) (by omega)) ?_ | refine VV.b (b_gtT (by omega) (by omega)) ?_ | refine VV.b (b_gtF (by omega) (by omega)) ?_ | refine VV.b (b_leT (by omega) (by omega)) ?_ | refine VV.b (b_leF (by omega) (by omega)) ?_ | refine VV.b (b_eqT (by omega) (by omega)) ?_ | refine VV.b (b_eqF (by omega) (by omega)) ?_ | refine VV.b (b_neT (by omega) (by omega)) ?_ | refine VV.b (b_neF (by omega) (by omega)) ?_)
        exact VV.r rfl this
    · have := q (A 61) (fun k l hk hl => by rw [if_neg c]; exact hE k l hk hl)
      rw [up_id] at this
      repeat (first | refine VV.g58n rfl rfl hn ?_ | refine VV.g58 rfl rfl ?_ | refine VV.pf rfl rfl ?_ | refine VV.add rfl ?_ | refine VV.inc rfl rfl rfl ?_ | refine VV.mul rfl ?_ | refine VV.sub rfl (by omega) ?_ | refine VV.shl1 rfl (by omega) ?_ | refine VV.shl rfl ⟨by omega, by omega⟩ ?_ | refine VV.shr rfl ⟨by omega, by omega⟩ ?_ | refine VV.and rfl ?_ | refine VV.div rfl ⟨by omega, by omega, by omega⟩ ?_ | refine VV.rem rfl ⟨by omega, by omega, by omega⟩ ?_ | refine VV.s rfl ?_  | refine VV.b (b_ltT (by omega) (by omega)) ?_ | refine VV.b (b_ltF (by omega) (by omega)) ?_ | refine VV.b (b_geT (by omega) (by omega)) ?_ | refine VV.b (b_geF (by omega) (by omega)) ?_ | refine VV.b (b_gtT (by omega) (by omega)) ?_ | refine VV.b (b_gtF (by omega) (by omega)) ?_ | refine VV.b (b_leT (by omega) (by omega)) ?_ | refine VV.b (b_leF (by omega) (by omega)) ?_ | refine VV.b (b_eqT (by omega) (by omega)) ?_ | refine VV.b (b_eqF (by omega) (by omega)) ?_ | refine VV.b (b_neT (by omega) (by omega)) ?_ | refine VV.b (b_neF (by omega) (by omega)) ?_)
      exact VV.r rfl this
  · obtain ⟨i, j, hi, hj, rfl⟩ := hs h2
    rw [if_neg (by omega), if_neg (by omega), nI_clamp (by omega), show (10 * i + j) / 10 = i by omega, show (10 * i + j) % 10 = j by omega, cel_nI (by omega) (by omega)] at q
    repeat (first | refine VV.g58 rfl rfl ?_ | refine VV.pf rfl rfl ?_ | refine VV.add rfl ?_ | refine VV.inc rfl rfl rfl ?_ | refine VV.mul rfl ?_ | refine VV.sub rfl (by omega) ?_ | refine VV.shl1 rfl (by omega) ?_ | refine VV.shl rfl ⟨by omega, by omega⟩ ?_ | refine VV.shr rfl ⟨by omega, by omega⟩ ?_ | refine VV.and rfl ?_ | refine VV.div rfl ⟨by omega, by omega, by omega⟩ ?_ | refine VV.rem rfl ⟨by omega, by omega, by omega⟩ ?_ | refine VV.s rfl ?_  | refine VV.b (b_ltT (by omega) (by omega)) ?_ | refine VV.b (b_ltF (by omega) (by omega)) ?_ | refine VV.b (b_geT (by omega) (by omega)) ?_ | refine VV.b (b_geF (by omega) (by omega)) ?_ | refine VV.b (b_gtT (by omega) (by omega)) ?_ | refine VV.b (b_gtF (by omega) (by omega)) ?_ | refine VV.b (b_leT (by omega) (by omega)) ?_ | refine VV.b (b_leF (by omega) (by omega)) ?_ | refine VV.b (b_eqT (by omega) (by omega)) ?_ | refine VV.b (b_eqF (by omega) (by omega)) ?_ | refine VV.b (b_neT (by omega) (by omega)) ?_ | refine VV.b (b_neF (by omega) (by omega)) ?_)
    (refine VV.c rfl ?_; refine cm_isSpot hn h4 ?_)
    rw [spB_nI (by omega), show (10 * i + j) / 10 = i by omega, show (10 * i + j) % 10 = j by omega]
    by_cases c : i < n ∧ j < n
    · rw [decide_eq_true c.1, decide_eq_true c.2]
      rw [if_pos c] at q
      have e1 := hE i j c.1 c.2
      have b1 := bE i j c.1 c.2
      have fin : ∀ y : Int32, y.toInt64 = (if a = 1 then 0 else if lN 99 < E (4 * i + j) + lN 1 then lN 99 else E (4 * i + j) + lN 1) → VV (d + 2) M_M_happens 142 [some (.ref 58), some (.int (nI a)), some (.int (nI (10 * i + j))), some (.int (A 61 (4 * i + j))), none] [.int y, .int (nI (4 * i + j)), .ref 61] (HH S τ A B) Q := by
        intro y hy
        have := q (up (A 61) (4 * i + j) y) (fun k l hk hl => by
          by_cases e : 4 * k + l = 4 * i + j
          · rw [e, up_s, up_s]; exact hy
          · rw [up_n e, up_n e]; exact hE k l hk hl)
        refine VV.is rfl rfl rfl (show 4 * i + j < 16 by omega) ?_
        exact VV.r rfl this
      show VV _ _ _ _ [.int (nI 1)] _ _
      repeat (first | refine VV.g58 rfl rfl ?_ | refine VV.pf rfl rfl ?_ | refine VV.add rfl ?_ | refine VV.inc rfl rfl rfl ?_ | refine VV.mul rfl ?_ | refine VV.sub rfl (by omega) ?_ | refine VV.shl1 rfl (by omega) ?_ | refine VV.shl rfl ⟨by omega, by omega⟩ ?_ | refine VV.shr rfl ⟨by omega, by omega⟩ ?_ | refine VV.and rfl ?_ | refine VV.div rfl ⟨by omega, by omega, by omega⟩ ?_ | refine VV.rem rfl ⟨by omega, by omega, by omega⟩ ?_ | refine VV.s rfl ?_  | refine VV.b (b_ltT (by omega) (by omega)) ?_ | refine VV.b (b_ltF (by omega) (by omega)) ?_ | refine VV.b (b_geT (by omega) (by omega)) ?_ | refine VV.b (b_geF (by omega) (by omega)) ?_ | refine VV.b (b_gtT (by omega) (by omega)) ?_ | refine VV.b (b_gtF (by omega) (by omega)) ?_ | refine VV.b (b_leT (by omega) (by omega)) ?_ | refine VV.b (b_leF (by omega) (by omega)) ?_ | refine VV.b (b_eqT (by omega) (by omega)) ?_ | refine VV.b (b_eqF (by omega) (by omega)) ?_ | refine VV.b (b_neT (by omega) (by omega)) ?_ | refine VV.b (b_neF (by omega) (by omega)) ?_)
      (refine VV.c rfl ?_; refine cm_cell hi hj ?_)
      refine VV.ia rfl rfl rfl (show 4 * i + j < 16 by omega) ?_
      repeat (first | refine VV.g58 rfl rfl ?_ | refine VV.pf rfl rfl ?_ | refine VV.add rfl ?_ | refine VV.inc rfl rfl rfl ?_ | refine VV.mul rfl ?_ | refine VV.sub rfl (by omega) ?_ | refine VV.shl1 rfl (by omega) ?_ | refine VV.shl rfl ⟨by omega, by omega⟩ ?_ | refine VV.shr rfl ⟨by omega, by omega⟩ ?_ | refine VV.and rfl ?_ | refine VV.div rfl ⟨by omega, by omega, by omega⟩ ?_ | refine VV.rem rfl ⟨by omega, by omega, by omega⟩ ?_ | refine VV.s rfl ?_  | refine VV.b (b_ltT (by omega) (by omega)) ?_ | refine VV.b (b_ltF (by omega) (by omega)) ?_ | refine VV.b (b_geT (by omega) (by omega)) ?_ | refine VV.b (b_geF (by omega) (by omega)) ?_ | refine VV.b (b_gtT (by omega) (by omega)) ?_ | refine VV.b (b_gtF (by omega) (by omega)) ?_ | refine VV.b (b_leT (by omega) (by omega)) ?_ | refine VV.b (b_leF (by omega) (by omega)) ?_ | refine VV.b (b_eqT (by omega) (by omega)) ?_ | refine VV.b (b_eqF (by omega) (by omega)) ?_ | refine VV.b (b_neT (by omega) (by omega)) ?_ | refine VV.b (b_neF (by omega) (by omega)) ?_)
      (refine VV.c rfl ?_; refine cm_cell hi hj ?_)
      unfold bd at b1
      rw [← e1, Int32.toInt_toInt64] at b1
      rcases (show a = 0 ∨ a = 1 by omega) with rfl | rfl
      · rw [if_neg (by decide)] at fin
        repeat (first | refine VV.add rfl ?_ | refine VV.inc rfl rfl rfl ?_ | refine VV.mul rfl ?_ | refine VV.sub rfl (by omega) ?_ | refine VV.shl1 rfl (by omega) ?_ | refine VV.shl rfl ⟨by omega, by omega⟩ ?_ | refine VV.shr rfl ⟨by omega, by omega⟩ ?_ | refine VV.and rfl ?_ | refine VV.div rfl ⟨by omega, by omega, by omega⟩ ?_ | refine VV.rem rfl ⟨by omega, by omega, by omega⟩ ?_ | refine VV.s rfl ?_  | refine VV.b (b_ltT (by omega) (by omega)) ?_ | refine VV.b (b_ltF (by omega) (by omega)) ?_ | refine VV.b (b_geT (by omega) (by omega)) ?_ | refine VV.b (b_geF (by omega) (by omega)) ?_ | refine VV.b (b_gtT (by omega) (by omega)) ?_ | refine VV.b (b_gtF (by omega) (by omega)) ?_ | refine VV.b (b_leT (by omega) (by omega)) ?_ | refine VV.b (b_leF (by omega) (by omega)) ?_ | refine VV.b (b_eqT (by omega) (by omega)) ?_ | refine VV.b (b_eqF (by omega) (by omega)) ?_ | refine VV.b (b_neT (by omega) (by omega)) ?_ | refine VV.b (b_neF (by omega) (by omega)) ?_)
        refine VV.i (fun c2 => ?_) (fun c2 => ?_)
        · have := fin (A 61 (4 * i + j)) (by
            rw [← e1, c2, if_pos (by decide)]
            rfl)
          repeat (first | exact this | refine VV.s rfl ?_)
        · have := fin (A 61 (4 * i + j) + nI 1) (by
            have ne : (A 61 (4 * i + j)).toInt ≠ 99 := fun z => c2 (Int32.toInt.inj (z.trans (show (99 : Int) = (nI 99).toInt by decide)))
            have t1 : (A 61 (4 * i + j) + nI 1).toInt = (A 61 (4 * i + j)).toInt + 1 := by
              rw [Int32.toInt_add, show (nI 1).toInt = 1 by decide, Int.bmod_eq_of_le_mul_two (by omega) (by omega)]
            have t2 : ((A 61 (4 * i + j)).toInt64 + lN 1).toInt = (A 61 (4 * i + j)).toInt + 1 := by
              rw [i64_add (by rw [Int32.toInt_toInt64, pk_lT (by omega)]; omega), Int32.toInt_toInt64, pk_lT (by omega)]; rfl
            rw [← e1, if_neg (fun z => by
              rw [Int64.lt_iff_toInt_lt, t2, pk_lT (by omega)] at z
              omega), ← Int64.toInt_inj, t2, Int32.toInt_toInt64, t1])
          repeat (first | exact this | refine VV.s rfl ?_)
      · have := fin (nI 0) (by rw [if_pos rfl]; rfl)
        repeat (first | exact this | refine VV.add rfl ?_ | refine VV.inc rfl rfl rfl ?_ | refine VV.mul rfl ?_ | refine VV.sub rfl (by omega) ?_ | refine VV.shl1 rfl (by omega) ?_ | refine VV.shl rfl ⟨by omega, by omega⟩ ?_ | refine VV.shr rfl ⟨by omega, by omega⟩ ?_ | refine VV.and rfl ?_ | refine VV.div rfl ⟨by omega, by omega, by omega⟩ ?_ | refine VV.rem rfl ⟨by omega, by omega, by omega⟩ ?_ | refine VV.s rfl ?_  | refine VV.b (b_ltT (by omega) (by omega)) ?_ | refine VV.b (b_ltF (by omega) (by omega)) ?_ | refine VV.b (b_geT (by omega) (by omega)) ?_ | refine VV.b (b_geF (by omega) (by omega)) ?_ | refine VV.b (b_gtT (by omega) (by omega)) ?_ | refine VV.b (b_gtF (by omega) (by omega)) ?_ | refine VV.b (b_leT (by omega) (by omega)) ?_ | refine VV.b (b_leF (by omega) (by omega)) ?_ | refine VV.b (b_eqT (by omega) (by omega)) ?_ | refine VV.b (b_eqF (by omega) (by omega)) ?_ | refine VV.b (b_neT (by omega) (by omega)) ?_ | refine VV.b (b_neF (by omega) (by omega)) ?_)
    · have := q (A 61) (fun k l hk hl => by rw [if_neg c]; exact hE k l hk hl)
      rw [up_id] at this
      rw [show (decide (i < n) && decide (j < n)) = false from by
        by_cases ci : i < n
        · rw [decide_eq_false (fun z => c ⟨ci, z⟩), Bool.and_false]
        · rw [decide_eq_false ci, Bool.false_and]]
      repeat (first | refine VV.add rfl ?_ | refine VV.inc rfl rfl rfl ?_ | refine VV.mul rfl ?_ | refine VV.sub rfl (by omega) ?_ | refine VV.shl1 rfl (by omega) ?_ | refine VV.shl rfl ⟨by omega, by omega⟩ ?_ | refine VV.shr rfl ⟨by omega, by omega⟩ ?_ | refine VV.and rfl ?_ | refine VV.div rfl ⟨by omega, by omega, by omega⟩ ?_ | refine VV.rem rfl ⟨by omega, by omega, by omega⟩ ?_ | refine VV.s rfl ?_  | refine VV.b (b_ltT (by omega) (by omega)) ?_ | refine VV.b (b_ltF (by omega) (by omega)) ?_ | refine VV.b (b_geT (by omega) (by omega)) ?_ | refine VV.b (b_geF (by omega) (by omega)) ?_ | refine VV.b (b_gtT (by omega) (by omega)) ?_ | refine VV.b (b_gtF (by omega) (by omega)) ?_ | refine VV.b (b_leT (by omega) (by omega)) ?_ | refine VV.b (b_leF (by omega) (by omega)) ?_ | refine VV.b (b_eqT (by omega) (by omega)) ?_ | refine VV.b (b_eqF (by omega) (by omega)) ?_ | refine VV.b (b_neT (by omega) (by omega)) ?_ | refine VV.b (b_neF (by omega) (by omega)) ?_)
      exact VV.r rfl this
end ML
section MM
variable {d : Nat} {s : St}
theorem m_after (i : IV s) {w : Int32} : KMJ (d + 7) M_M_after [.ref 58, .int w] s (oAfter s w) := by
  intro S τ A B Q h q
  unfold oAfter at q
  have hn := h.n
  have h4 := i.c.n4
  have h2 := i.c.n2
  have hem := i.c.em
  have hm := h.em
  have hp : 2 ^ s.c.n ≤ 2 ^ 4 := Nat.pow_le_pow_right (by omega) h4
  have hp0 : 0 < 2 ^ s.c.n := Nat.two_pow_pos s.c.n
  refine CC.of rfl ?_
  repeat (first | refine VV.add rfl ?_ | refine VV.inc rfl rfl rfl ?_ | refine VV.mul rfl ?_ | refine VV.sub rfl (by omega) ?_ | refine VV.shl1 rfl (by omega) ?_ | refine VV.shl rfl ⟨by omega, by omega⟩ ?_ | refine VV.shr rfl ⟨by omega, by omega⟩ ?_ | refine VV.and rfl ?_ | refine VV.div rfl ⟨by omega, by omega, by omega⟩ ?_ | refine VV.rem rfl ⟨by omega, by omega, by omega⟩ ?_ | refine VV.s rfl ?_  | refine VV.b (b_ltT (by omega) (by omega)) ?_ | refine VV.b (b_ltF (by omega) (by omega)) ?_ | refine VV.b (b_geT (by omega) (by omega)) ?_ | refine VV.b (b_geF (by omega) (by omega)) ?_ | refine VV.b (b_gtT (by omega) (by omega)) ?_ | refine VV.b (b_gtF (by omega) (by omega)) ?_ | refine VV.b (b_leT (by omega) (by omega)) ?_ | refine VV.b (b_leF (by omega) (by omega)) ?_ | refine VV.b (b_eqT (by omega) (by omega)) ?_ | refine VV.b (b_eqF (by omega) (by omega)) ?_ | refine VV.b (b_neT (by omega) (by omega)) ?_ | refine VV.b (b_neF (by omega) (by omega)) ?_)
  (refine VV.c rfl ?_; refine cm_in (lo := nI 0) (hi := nI 2) rfl rfl ?_)
  cases hr : rgB (nI 0) (nI 2) w with
  | false =>
    rw [hr] at q
    repeat (first | refine VV.add rfl ?_ | refine VV.inc rfl rfl rfl ?_ | refine VV.mul rfl ?_ | refine VV.sub rfl (by omega) ?_ | refine VV.shl1 rfl (by omega) ?_ | refine VV.shl rfl ⟨by omega, by omega⟩ ?_ | refine VV.shr rfl ⟨by omega, by omega⟩ ?_ | refine VV.and rfl ?_ | refine VV.div rfl ⟨by omega, by omega, by omega⟩ ?_ | refine VV.rem rfl ⟨by omega, by omega, by omega⟩ ?_ | refine VV.s rfl ?_  | refine VV.b (b_ltT (by omega) (by omega)) ?_ | refine VV.b (b_ltF (by omega) (by omega)) ?_ | refine VV.b (b_geT (by omega) (by omega)) ?_ | refine VV.b (b_geF (by omega) (by omega)) ?_ | refine VV.b (b_gtT (by omega) (by omega)) ?_ | refine VV.b (b_gtF (by omega) (by omega)) ?_ | refine VV.b (b_leT (by omega) (by omega)) ?_ | refine VV.b (b_leF (by omega) (by omega)) ?_ | refine VV.b (b_eqT (by omega) (by omega)) ?_ | refine VV.b (b_eqF (by omega) (by omega)) ?_ | refine VV.b (b_neT (by omega) (by omega)) ?_ | refine VV.b (b_neF (by omega) (by omega)) ?_)
    exact VV.r rfl (q τ A B h FM.refl)
  | true =>
    rw [hr, if_pos rfl] at q
    have P2 : ∀ F0, (∀ l, l < 16 → F0 l = A 59 l) → ∀ x2, VV (d + 7) M_M_after 42 [some (.ref 58), some (.int w), x2] [] (HH S τ (up A 61 F0) B) Q := by
      intro F0 hF0 x2
      have L := VV.inv (fun k (F : Nat → Int32) => ∀ a b, a < s.c.n → b < s.c.n → (F (4 * a + b)).toInt64 = aftE s.c.n (s.c.r 4) s.c.E k (4 * a + b)) (fun k F => VV (d + 7) M_M_after 44 [some (.ref 58), some (.int w), some (.int (nI k))] [] (HH S τ (up A 61 F) B) Q) (s.c.m 4) ?_ ?_ (s.c.m 4) 0 F0 (by omega) (fun a b ha hb => by rw [hF0 _ (by omega)]; exact h.E a b ha hb)
      · repeat (first | exact L | refine VV.add rfl ?_ | refine VV.inc rfl rfl rfl ?_ | refine VV.mul rfl ?_ | refine VV.sub rfl (by omega) ?_ | refine VV.shl1 rfl (by omega) ?_ | refine VV.shl rfl ⟨by omega, by omega⟩ ?_ | refine VV.shr rfl ⟨by omega, by omega⟩ ?_ | refine VV.and rfl ?_ | refine VV.div rfl ⟨by omega, by omega, by omega⟩ ?_ | refine VV.rem rfl ⟨by omega, by omega, by omega⟩ ?_ | refine VV.s rfl ?_  | refine VV.b (b_ltT (by omega) (by omega)) ?_ | refine VV.b (b_ltF (by omega) (by omega)) ?_ | refine VV.b (b_geT (by omega) (by omega)) ?_ | refine VV.b (b_geF (by omega) (by omega)) ?_ | refine VV.b (b_gtT (by omega) (by omega)) ?_ | refine VV.b (b_gtF (by omega) (by omega)) ?_ | refine VV.b (b_leT (by omega) (by omega)) ?_ | refine VV.b (b_leF (by omega) (by omega)) ?_ | refine VV.b (b_eqT (by omega) (by omega)) ?_ | refine VV.b (b_eqF (by omega) (by omega)) ?_ | refine VV.b (b_neT (by omega) (by omega)) ?_ | refine VV.b (b_neF (by omega) (by omega)) ?_)
      · intro k F hk hI nxt
        obtain ⟨a, e0, he⟩ := i.c.ev k hk
        have he : evOk a (s.c.r 4 k 1) := he
        have ha := he.1
        obtain ⟨v0, v1⟩ := h.ev k hk
        repeat (first | refine VV.g58n rfl rfl hm ?_ | refine VV.g58 rfl rfl ?_ | refine VV.pf rfl rfl ?_ | refine VV.add rfl ?_ | refine VV.inc rfl rfl rfl ?_ | refine VV.mul rfl ?_ | refine VV.sub rfl (by omega) ?_ | refine VV.shl1 rfl (by omega) ?_ | refine VV.shl rfl ⟨by omega, by omega⟩ ?_ | refine VV.shr rfl ⟨by omega, by omega⟩ ?_ | refine VV.and rfl ?_ | refine VV.div rfl ⟨by omega, by omega, by omega⟩ ?_ | refine VV.rem rfl ⟨by omega, by omega, by omega⟩ ?_ | refine VV.s rfl ?_  | refine VV.b (b_ltT (by omega) (by omega)) ?_ | refine VV.b (b_ltF (by omega) (by omega)) ?_ | refine VV.b (b_geT (by omega) (by omega)) ?_ | refine VV.b (b_geF (by omega) (by omega)) ?_ | refine VV.b (b_gtT (by omega) (by omega)) ?_ | refine VV.b (b_gtF (by omega) (by omega)) ?_ | refine VV.b (b_leT (by omega) (by omega)) ?_ | refine VV.b (b_leF (by omega) (by omega)) ?_ | refine VV.b (b_eqT (by omega) (by omega)) ?_ | refine VV.b (b_eqF (by omega) (by omega)) ?_ | refine VV.b (b_neT (by omega) (by omega)) ?_ | refine VV.b (b_neF (by omega) (by omega)) ?_)
        refine VV.ia rfl rfl rfl (show k < 8 by omega) ?_
        rw [show up A 61 F 78 k = nI a from v0.trans e0]
        repeat (first | refine VV.g58 rfl rfl ?_ | refine VV.pf rfl rfl ?_ | refine VV.add rfl ?_ | refine VV.inc rfl rfl rfl ?_ | refine VV.mul rfl ?_ | refine VV.sub rfl (by omega) ?_ | refine VV.shl1 rfl (by omega) ?_ | refine VV.shl rfl ⟨by omega, by omega⟩ ?_ | refine VV.shr rfl ⟨by omega, by omega⟩ ?_ | refine VV.and rfl ?_ | refine VV.div rfl ⟨by omega, by omega, by omega⟩ ?_ | refine VV.rem rfl ⟨by omega, by omega, by omega⟩ ?_ | refine VV.s rfl ?_  | refine VV.b (b_ltT (by omega) (by omega)) ?_ | refine VV.b (b_ltF (by omega) (by omega)) ?_ | refine VV.b (b_geT (by omega) (by omega)) ?_ | refine VV.b (b_geF (by omega) (by omega)) ?_ | refine VV.b (b_gtT (by omega) (by omega)) ?_ | refine VV.b (b_gtF (by omega) (by omega)) ?_ | refine VV.b (b_leT (by omega) (by omega)) ?_ | refine VV.b (b_leF (by omega) (by omega)) ?_ | refine VV.b (b_eqT (by omega) (by omega)) ?_ | refine VV.b (b_eqF (by omega) (by omega)) ?_ | refine VV.b (b_neT (by omega) (by omega)) ?_ | refine VV.b (b_neF (by omega) (by omega)) ?_)
        refine VV.ia rfl rfl rfl (show k < 8 by omega) ?_
        rw [show up A 61 F 79 k = s.c.r 4 k 1 from v1]
        (refine VV.c rfl ?_; refine cm_happens hn (by omega) h4 he (E := aftE s.c.n (s.c.r 4) s.c.E k) (fun x y hx hy => by rw [up_s]; exact hI x y hx hy) (bd_aft i.c k (by omega)) (fun F2 hF2 => ?_))
        rw [up_up]
        have := nxt F2 (fun x y hx hy => by rw [hF2 x y hx hy, aftE, e0, nI_clamp (by omega)])
        repeat (first | exact this | refine VV.add rfl ?_ | refine VV.inc rfl rfl rfl ?_ | refine VV.mul rfl ?_ | refine VV.sub rfl (by omega) ?_ | refine VV.shl1 rfl (by omega) ?_ | refine VV.shl rfl ⟨by omega, by omega⟩ ?_ | refine VV.shr rfl ⟨by omega, by omega⟩ ?_ | refine VV.and rfl ?_ | refine VV.div rfl ⟨by omega, by omega, by omega⟩ ?_ | refine VV.rem rfl ⟨by omega, by omega, by omega⟩ ?_ | refine VV.s rfl ?_  | refine VV.b (b_ltT (by omega) (by omega)) ?_ | refine VV.b (b_ltF (by omega) (by omega)) ?_ | refine VV.b (b_geT (by omega) (by omega)) ?_ | refine VV.b (b_geF (by omega) (by omega)) ?_ | refine VV.b (b_gtT (by omega) (by omega)) ?_ | refine VV.b (b_gtF (by omega) (by omega)) ?_ | refine VV.b (b_leT (by omega) (by omega)) ?_ | refine VV.b (b_leF (by omega) (by omega)) ?_ | refine VV.b (b_eqT (by omega) (by omega)) ?_ | refine VV.b (b_eqF (by omega) (by omega)) ?_ | refine VV.b (b_neT (by omega) (by omega)) ?_ | refine VV.b (b_neF (by omega) (by omega)) ?_)
      · intro F hI
        have rm : RM s τ (up A 61 F) B := (RM.mk h.n h.E h.V h.cm h.ck h.nm h.nt h.sm h.se h.em h.ev h.bm h.bk h.tm h.tx h.ts h.tl h.ti h.im0 h.im1)
        have q1 := q _ _ _ rm (FM.ua (by decide) FM.refl)
        have hE : ∀ a b, a < s.c.n → b < s.c.n → (up A 61 F 61 (4 * a + b)).toInt64 = aft s.c (4 * a + b) := fun a b ha hb => by rw [up_s]; exact hI a b ha hb
        repeat (first | refine VV.g58n rfl rfl hm ?_ | refine VV.g58 rfl rfl ?_ | refine VV.pf rfl rfl ?_ | refine VV.add rfl ?_ | refine VV.inc rfl rfl rfl ?_ | refine VV.mul rfl ?_ | refine VV.sub rfl (by omega) ?_ | refine VV.shl1 rfl (by omega) ?_ | refine VV.shl rfl ⟨by omega, by omega⟩ ?_ | refine VV.shr rfl ⟨by omega, by omega⟩ ?_ | refine VV.and rfl ?_ | refine VV.div rfl ⟨by omega, by omega, by omega⟩ ?_ | refine VV.rem rfl ⟨by omega, by omega, by omega⟩ ?_ | refine VV.s rfl ?_  | refine VV.b (b_ltT (by omega) (by omega)) ?_ | refine VV.b (b_ltF (by omega) (by omega)) ?_ | refine VV.b (b_geT (by omega) (by omega)) ?_ | refine VV.b (b_geF (by omega) (by omega)) ?_ | refine VV.b (b_gtT (by omega) (by omega)) ?_ | refine VV.b (b_gtF (by omega) (by omega)) ?_ | refine VV.b (b_leT (by omega) (by omega)) ?_ | refine VV.b (b_leF (by omega) (by omega)) ?_ | refine VV.b (b_eqT (by omega) (by omega)) ?_ | refine VV.b (b_eqF (by omega) (by omega)) ?_ | refine VV.b (b_neT (by omega) (by omega)) ?_ | refine VV.b (b_neF (by omega) (by omega)) ?_)
        refine VV.i (fun c3 => ?_) (fun c3 => ?_)
        · rw [if_pos (show w = nI 0 from c3), ← abG_T h4] at q1
          repeat (first | refine VV.g58 rfl rfl ?_ | refine VV.pf rfl rfl ?_ | refine VV.add rfl ?_ | refine VV.inc rfl rfl rfl ?_ | refine VV.mul rfl ?_ | refine VV.sub rfl (by omega) ?_ | refine VV.shl1 rfl (by omega) ?_ | refine VV.shl rfl ⟨by omega, by omega⟩ ?_ | refine VV.shr rfl ⟨by omega, by omega⟩ ?_ | refine VV.and rfl ?_ | refine VV.div rfl ⟨by omega, by omega, by omega⟩ ?_ | refine VV.rem rfl ⟨by omega, by omega, by omega⟩ ?_ | refine VV.s rfl ?_  | refine VV.b (b_ltT (by omega) (by omega)) ?_ | refine VV.b (b_ltF (by omega) (by omega)) ?_ | refine VV.b (b_geT (by omega) (by omega)) ?_ | refine VV.b (b_geF (by omega) (by omega)) ?_ | refine VV.b (b_gtT (by omega) (by omega)) ?_ | refine VV.b (b_gtF (by omega) (by omega)) ?_ | refine VV.b (b_leT (by omega) (by omega)) ?_ | refine VV.b (b_leF (by omega) (by omega)) ?_ | refine VV.b (b_eqT (by omega) (by omega)) ?_ | refine VV.b (b_eqF (by omega) (by omega)) ?_ | refine VV.b (b_neT (by omega) (by omega)) ?_ | refine VV.b (b_neF (by omega) (by omega)) ?_)
          (refine VV.c rfl ?_; refine cm_aboveOf (a := 61) (k := 0) (all := false) rfl rfl hn h4 hE (by omega) ?_)
          repeat refine VV.s rfl ?_
          exact VV.r rfl q1
        rw [if_neg (show ¬ w = nI 0 from c3)] at q1
        refine VV.s rfl ?_
        refine VV.s rfl ?_
        refine VV.s rfl ?_
        refine VV.i (fun c4 => ?_) (fun c4 => ?_)
        · rw [if_pos c4] at q1
          repeat (first | refine VV.g58 rfl rfl ?_ | refine VV.pf rfl rfl ?_ | refine VV.add rfl ?_ | refine VV.inc rfl rfl rfl ?_ | refine VV.mul rfl ?_ | refine VV.sub rfl (by omega) ?_ | refine VV.shl1 rfl (by omega) ?_ | refine VV.shl rfl ⟨by omega, by omega⟩ ?_ | refine VV.shr rfl ⟨by omega, by omega⟩ ?_ | refine VV.and rfl ?_ | refine VV.div rfl ⟨by omega, by omega, by omega⟩ ?_ | refine VV.rem rfl ⟨by omega, by omega, by omega⟩ ?_ | refine VV.s rfl ?_  | refine VV.b (b_ltT (by omega) (by omega)) ?_ | refine VV.b (b_ltF (by omega) (by omega)) ?_ | refine VV.b (b_geT (by omega) (by omega)) ?_ | refine VV.b (b_geF (by omega) (by omega)) ?_ | refine VV.b (b_gtT (by omega) (by omega)) ?_ | refine VV.b (b_gtF (by omega) (by omega)) ?_ | refine VV.b (b_leT (by omega) (by omega)) ?_ | refine VV.b (b_leF (by omega) (by omega)) ?_ | refine VV.b (b_eqT (by omega) (by omega)) ?_ | refine VV.b (b_eqF (by omega) (by omega)) ?_ | refine VV.b (b_neT (by omega) (by omega)) ?_ | refine VV.b (b_neF (by omega) (by omega)) ?_)
          (refine VV.c rfl ?_; refine cm_amiss (a := 61) rfl rfl hn h4 hE ?_)
          repeat refine VV.s rfl ?_
          exact VV.r rfl q1
        rw [if_neg c4] at q1
        repeat (first | refine VV.g58n rfl rfl hn ?_ | refine VV.g58 rfl rfl ?_ | refine VV.pf rfl rfl ?_ | refine VV.add rfl ?_ | refine VV.inc rfl rfl rfl ?_ | refine VV.mul rfl ?_ | refine VV.sub rfl (by omega) ?_ | refine VV.shl1 rfl (by omega) ?_ | refine VV.shl rfl ⟨by omega, by omega⟩ ?_ | refine VV.shr rfl ⟨by omega, by omega⟩ ?_ | refine VV.and rfl ?_ | refine VV.div rfl ⟨by omega, by omega, by omega⟩ ?_ | refine VV.rem rfl ⟨by omega, by omega, by omega⟩ ?_ | refine VV.s rfl ?_  | refine VV.b (b_ltT (by omega) (by omega)) ?_ | refine VV.b (b_ltF (by omega) (by omega)) ?_ | refine VV.b (b_geT (by omega) (by omega)) ?_ | refine VV.b (b_geF (by omega) (by omega)) ?_ | refine VV.b (b_gtT (by omega) (by omega)) ?_ | refine VV.b (b_gtF (by omega) (by omega)) ?_ | refine VV.b (b_leT (by omega) (by omega)) ?_ | refine VV.b (b_leF (by omega) (by omega)) ?_ | refine VV.b (b_eqT (by omega) (by omega)) ?_ | refine VV.b (b_eqF (by omega) (by omega)) ?_ | refine VV.b (b_neT (by omega) (by omega)) ?_ | refine VV.b (b_neF (by omega) (by omega)) ?_)
        (refine VV.c rfl ?_; refine cm_det (a := 61) rfl rfl h4 hE (show 2 ^ s.c.n - 1 < 2 ^ s.c.n by omega) (show 2 ^ s.c.n - 1 < 2 ^ s.c.n by omega) ?_)
        exact VV.r rfl q1
    have L := VV.inv (fun k (F : Nat → Int32) => ∀ l, l < k → F l = A 59 l) (fun k F => VV (d + 7) M_M_after 18 [some (.ref 58), some (.int w), some (.int (nI k))] [] (HH S τ (up A 61 F) B) Q) 16 ?_ ?_ 16 0 (A 61) (by omega) (fun l hl => absurd hl (by omega))
    · rw [up_id] at L
      show VV _ _ _ _ [.int (nI 1)] _ _
      refine VV.s rfl ?_
      refine VV.b (b_neT (by omega) (by omega)) ?_
      repeat (first | exact L | refine VV.s rfl ?_)
    · intro k F hk hI nxt
      have := nxt (up F k (A 59 k)) (fun l hl => by
        by_cases e : l = k
        · rw [e, up_s]
        · rw [up_n e]; exact hI l (by omega))
      repeat (first | refine VV.g58 rfl rfl ?_ | refine VV.pf rfl rfl ?_ | refine VV.add rfl ?_ | refine VV.inc rfl rfl rfl ?_ | refine VV.mul rfl ?_ | refine VV.sub rfl (by omega) ?_ | refine VV.shl1 rfl (by omega) ?_ | refine VV.shl rfl ⟨by omega, by omega⟩ ?_ | refine VV.shr rfl ⟨by omega, by omega⟩ ?_ | refine VV.and rfl ?_ | refine VV.div rfl ⟨by omega, by omega, by omega⟩ ?_ | refine VV.rem rfl ⟨by omega, by omega, by omega⟩ ?_ | refine VV.s rfl ?_  | refine VV.b (b_ltT (by omega) (by omega)) ?_ | refine VV.b (b_ltF (by omega) (by omega)) ?_ | refine VV.b (b_geT (by omega) (by omega)) ?_ | refine VV.b (b_geF (by omega) (by omega)) ?_ | refine VV.b (b_gtT (by omega) (by omega)) ?_ | refine VV.b (b_gtF (by omega) (by omega)) ?_ | refine VV.b (b_leT (by omega) (by omega)) ?_ | refine VV.b (b_leF (by omega) (by omega)) ?_ | refine VV.b (b_eqT (by omega) (by omega)) ?_ | refine VV.b (b_eqF (by omega) (by omega)) ?_ | refine VV.b (b_neT (by omega) (by omega)) ?_ | refine VV.b (b_neF (by omega) (by omega)) ?_)
      refine VV.ia rfl rfl rfl (show k < 16 from hk) ?_
      refine VV.is rfl rfl rfl (show k < 16 from hk) ?_
      rw [up_up, up_s]
      repeat (first | exact this | refine VV.add rfl ?_ | refine VV.inc rfl rfl rfl ?_ | refine VV.mul rfl ?_ | refine VV.sub rfl (by omega) ?_ | refine VV.shl1 rfl (by omega) ?_ | refine VV.shl rfl ⟨by omega, by omega⟩ ?_ | refine VV.shr rfl ⟨by omega, by omega⟩ ?_ | refine VV.and rfl ?_ | refine VV.div rfl ⟨by omega, by omega, by omega⟩ ?_ | refine VV.rem rfl ⟨by omega, by omega, by omega⟩ ?_ | refine VV.s rfl ?_  | refine VV.b (b_ltT (by omega) (by omega)) ?_ | refine VV.b (b_ltF (by omega) (by omega)) ?_ | refine VV.b (b_geT (by omega) (by omega)) ?_ | refine VV.b (b_geF (by omega) (by omega)) ?_ | refine VV.b (b_gtT (by omega) (by omega)) ?_ | refine VV.b (b_gtF (by omega) (by omega)) ?_ | refine VV.b (b_leT (by omega) (by omega)) ?_ | refine VV.b (b_leF (by omega) (by omega)) ?_ | refine VV.b (b_eqT (by omega) (by omega)) ?_ | refine VV.b (b_eqF (by omega) (by omega)) ?_ | refine VV.b (b_neT (by omega) (by omega)) ?_ | refine VV.b (b_neF (by omega) (by omega)) ?_)
    · intro F hF
      have := P2 F hF (some (.int (nI 16)))
      repeat (first | exact this | refine VV.add rfl ?_ | refine VV.inc rfl rfl rfl ?_ | refine VV.mul rfl ?_ | refine VV.sub rfl (by omega) ?_ | refine VV.shl1 rfl (by omega) ?_ | refine VV.shl rfl ⟨by omega, by omega⟩ ?_ | refine VV.shr rfl ⟨by omega, by omega⟩ ?_ | refine VV.and rfl ?_ | refine VV.div rfl ⟨by omega, by omega, by omega⟩ ?_ | refine VV.rem rfl ⟨by omega, by omega, by omega⟩ ?_ | refine VV.s rfl ?_  | refine VV.b (b_ltT (by omega) (by omega)) ?_ | refine VV.b (b_ltF (by omega) (by omega)) ?_ | refine VV.b (b_geT (by omega) (by omega)) ?_ | refine VV.b (b_geF (by omega) (by omega)) ?_ | refine VV.b (b_gtT (by omega) (by omega)) ?_ | refine VV.b (b_gtF (by omega) (by omega)) ?_ | refine VV.b (b_leT (by omega) (by omega)) ?_ | refine VV.b (b_leF (by omega) (by omega)) ?_ | refine VV.b (b_eqT (by omega) (by omega)) ?_ | refine VV.b (b_eqF (by omega) (by omega)) ?_ | refine VV.b (b_neT (by omega) (by omega)) ?_ | refine VV.b (b_neF (by omega) (by omega)) ?_)
end MM
