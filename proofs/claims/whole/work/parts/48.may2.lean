/-! the class's calls may and fits -/
theorem fmn_aff (E : Nat → Int64) {n i0 j0 i j : Nat} (h4 : n ≤ 4) (hi0 : i0 < n) (hj0 : j0 < n) (hi : i < n) (hj : j < n) (v : Int64) : fmn (up E (4 * i0 + j0) 0) i j + (fmn (up E (4 * i0 + j0) 1) i j - fmn (up E (4 * i0 + j0) 0) i j) * v = fmn (up E (4 * i0 + j0) v) i j := by
  have hp : 2 ^ n ≤ 2 ^ 4 := Nat.pow_le_pow_right (by omega) h4
  have b1 := (t_blk h4 hi (show 1 ≤ min i j + 1 by omega) (by omega)).1
  have b2 := (t_blk h4 hj (show 1 ≤ min i j + 1 by omega) (by omega)).1
  exact mnr_aff E (by omega) (by omega) (by omega) (by omega) v
theorem may_iff {E W U : Nat → Int64} {n i0 j0 : Nat} (h4 : n ≤ 4) (h1 : 1 ≤ n) (hi0 : i0 < n) (hj0 : j0 < n) (h : ∀ k, k < n * n → W k = fmn (up E (4 * i0 + j0) 0) (k / n) (k % n) ∧ U k = fmn (up E (4 * i0 + j0) 1) (k / n) (k % n) - fmn (up E (4 * i0 + j0) 0) (k / n) (k % n)) (v : Int64) : (∀ k, k < n * n → 0 < W k + U k * v) ↔ amI (up E (4 * i0 + j0) v) n n 0 = none := by
  rw [amI_none]
  constructor
  · intro g i j _ hi hj
    have hij : i * n + j < n * n := by
      have := Nat.mul_le_mul_right n (show i + 1 ≤ n by omega)
      rw [Nat.succ_mul] at this
      omega
    have e1 : (i * n + j) / n = i := by rw [Nat.mul_comm i n, Nat.mul_add_div (by omega), Nat.div_eq_of_lt hj, Nat.add_zero]
    have e2 : (i * n + j) % n = j := by rw [Nat.mul_comm i n, Nat.mul_add_mod, Nat.mod_eq_of_lt hj]
    have := g _ hij
    rw [(h _ hij).1, (h _ hij).2, e1, e2, fmn_aff E h4 hi0 hj0 (by omega) hj v] at this
    exact this
  · intro g k hk
    have hi : k / n < n := Nat.div_lt_of_lt_mul hk
    have hj : k % n < n := Nat.mod_lt _ (by omega)
    rw [(h _ hk).1, (h _ hk).2, fmn_aff E h4 hi0 hj0 hi hj v]
    exact g (k / n) (k % n) (Nat.zero_le _) (by rw [Nat.zero_add]; exact hi) hj
theorem mayP_congr {E E' : Nat → Int64} {n : Nat} (h4 : n ≤ 4) (h : ∀ i j, i < n → j < n → E (4 * i + j) = E' (4 * i + j)) (p k : Nat) : mayP E n p k = mayP E' n p k := by
  unfold mayP
  rw [amI_congr h4 (up_E h p _) n 0 (by omega)]
theorem fitP_congr {E E' : Nat → Int64} {n m : Nat} {r : Nat → Nat → Int32} (h4 : n ≤ 4) (h : ∀ i j, i < n → j < n → E (4 * i + j) = E' (4 * i + j)) (p k : Nat) : fitP E n r m p k = fitP E' n r m p k := by
  have hp : 2 ^ n ≤ 2 ^ 4 := Nat.pow_le_pow_right (by omega) h4
  unfold fitP
  rw [Bool.eq_iff_iff, List.all_eq_true, List.all_eq_true]
  have key : ∀ l, (mnB n (r l 0) (r l 1) && decide (mnr (up E p (vI k).toInt64) (r l 0).toNatClampNeg (r l 1).toNatClampNeg = (r l 2).toInt64)) = (mnB n (r l 0) (r l 1) && decide (mnr (up E' p (vI k).toInt64) (r l 0).toNatClampNeg (r l 1).toNatClampNeg = (r l 2).toInt64)) := by
    intro l
    cases hb : mnB n (r l 0) (r l 1) with
    | false => rw [Bool.false_and, Bool.false_and]
    | true =>
      obtain ⟨R, C, e1, e2, r1, r2, c1, c2, _⟩ := mnB_spec h4 hb
      rw [e1, e2, nI_clamp (by omega), nI_clamp (by omega), mnr_congr h4 r2 c2 (up_E h p _)]
  exact ⟨fun g l hl => (key l).symm.trans (g l hl), fun g l hl => (key l).trans (g l hl)⟩
theorem fit_sub {a b c v : Int64} (w : Int64) (h : a + (b - a) * v = c) : a - w + (b - w - (a - w)) * v = c - w := by
  rw [← h]
  grind
theorem sub0 {a b : Int64} : a - b = 0 ↔ a = b := ⟨fun h => by grind, fun h => by rw [h]; grind⟩
section XG
variable {S : Cl} {τ : Nat → Int32} {A : Nat → Nat → Int32} {B : Nat → Nat → Int64}
variable {d n : Nat} {Q : Option Value → Hp → Prop}
theorem cx_drawSeen (hn : τ (100 * 3 + 2) = nI n) (h4 : n ≤ 4) {i0 j0 m : Nat} {r : Nat → Nat → Int32} (hi0 : i0 < n) (hj0 : j0 < n) (hm4 : m ≤ 4) (hr : RR τ A 11 m r) (q1 : ∀ W U f, (∀ k, k < m → mnB n (r k 0) (r k 1) = true ∧ W k = mnr (up (B 4) (4 * i0 + j0) 0) (r k 0).toNatClampNeg (r k 1).toNatClampNeg - (r k 2).toInt64 ∧ U k = mnr (up (B 4) (4 * i0 + j0) 1) (r k 0).toNatClampNeg (r k 1).toNatClampNeg - (r k 2).toInt64 - (mnr (up (B 4) (4 * i0 + j0) 0) (r k 0).toNatClampNeg (r k 1).toNatClampNeg - (r k 2).toInt64)) → Q (some (.int (nI 1))) (HH S (up τ 3502 (nI m)) A (up (up (up B 36 W) 37 U) 5 f))) (q2 : ∀ x W U f, (∃ k, k < m ∧ mnB n (r k 0) (r k 1) = false) → Q (some (.int (nI 0))) (HH S (up τ 3502 x) A (up (up (up B 36 W) 37 U) 5 f))) : CC (d + 4) M_T_drawSeen [.ref 1, .int (nI (10 * i0 + j0))] (HH S τ A B) Q := by
  have hp : 2 ^ n ≤ 2 ^ 4 := Nat.pow_le_pow_right (by omega) h4
  refine CC.of rfl ?_
  have V := VV.inv (fun k (p : (Nat → Int64) × (Nat → Int64)) => ∀ l, l < k → mnB n (r l 0) (r l 1) = true ∧ p.1 l = mnr (up (B 4) (4 * i0 + j0) 0) (r l 0).toNatClampNeg (r l 1).toNatClampNeg - (r l 2).toInt64 ∧ p.2 l = mnr (up (B 4) (4 * i0 + j0) 1) (r l 0).toNatClampNeg (r l 1).toNatClampNeg - (r l 2).toInt64 - (mnr (up (B 4) (4 * i0 + j0) 0) (r l 0).toNatClampNeg (r l 1).toNatClampNeg - (r l 2).toInt64)) (fun k p => ∀ f x3 x4 x5 x6, VV (d + 4) M_T_drawSeen 9 [some (.ref 1), some (.int (nI (10 * i0 + j0))), some (.int (nI k)), x3, x4, x5, x6] [] (HH S (up τ 3502 (nI k)) A (up (up (up B 36 p.1) 37 p.2) 5 f)) Q) m ?_ ?_ m 0 (B 36, B 37) (by omega) (fun l hl => absurd hl (by omega)) (B 5) none none none none
  · rw [up_id, up_id, up_id] at V
    repeat refine VV.s rfl ?_
    (refine VV.c rfl ?_; refine cs_empty ?_)
    repeat (first | exact V | refine VV.add rfl ?_ | refine VV.inc rfl rfl rfl ?_ | refine VV.mul rfl ?_ | refine VV.sub rfl (by omega) ?_ | refine VV.shl1 rfl (by omega) ?_ | refine VV.shl rfl ⟨by omega, by omega⟩ ?_ | refine VV.shr rfl ⟨by omega, by omega⟩ ?_ | refine VV.and rfl ?_ | refine VV.div rfl ⟨by omega, by omega, by omega⟩ ?_ | refine VV.rem rfl ⟨by omega, by omega, by omega⟩ ?_ | refine VV.s rfl ?_  | refine VV.b (b_ltT (by omega) (by omega)) ?_ | refine VV.b (b_ltF (by omega) (by omega)) ?_ | refine VV.b (b_geT (by omega) (by omega)) ?_ | refine VV.b (b_geF (by omega) (by omega)) ?_ | refine VV.b (b_gtT (by omega) (by omega)) ?_ | refine VV.b (b_gtF (by omega) (by omega)) ?_ | refine VV.b (b_leT (by omega) (by omega)) ?_ | refine VV.b (b_leF (by omega) (by omega)) ?_ | refine VV.b (b_eqT (by omega) (by omega)) ?_ | refine VV.b (b_eqF (by omega) (by omega)) ?_ | refine VV.b (b_neT (by omega) (by omega)) ?_ | refine VV.b (b_neF (by omega) (by omega)) ?_)
  · intro k p hk hI nxt f x3 x4 x5 x6
    have hn2 : up τ 3502 (nI k) (100 * 3 + 2) = nI n := hn
    have hm2 : up τ 3502 (nI k) (100 * 11 + 2) = nI m := hr.h
    repeat (first | refine VV.add rfl ?_ | refine VV.inc rfl rfl rfl ?_ | refine VV.mul rfl ?_ | refine VV.sub rfl (by omega) ?_ | refine VV.shl1 rfl (by omega) ?_ | refine VV.shl rfl ⟨by omega, by omega⟩ ?_ | refine VV.shr rfl ⟨by omega, by omega⟩ ?_ | refine VV.and rfl ?_ | refine VV.div rfl ⟨by omega, by omega, by omega⟩ ?_ | refine VV.rem rfl ⟨by omega, by omega, by omega⟩ ?_ | refine VV.s rfl ?_  | refine VV.b (b_ltT (by omega) (by omega)) ?_ | refine VV.b (b_ltF (by omega) (by omega)) ?_ | refine VV.b (b_geT (by omega) (by omega)) ?_ | refine VV.b (b_geF (by omega) (by omega)) ?_ | refine VV.b (b_gtT (by omega) (by omega)) ?_ | refine VV.b (b_gtF (by omega) (by omega)) ?_ | refine VV.b (b_leT (by omega) (by omega)) ?_ | refine VV.b (b_leF (by omega) (by omega)) ?_ | refine VV.b (b_eqT (by omega) (by omega)) ?_ | refine VV.b (b_eqF (by omega) (by omega)) ?_ | refine VV.b (b_neT (by omega) (by omega)) ?_ | refine VV.b (b_neF (by omega) (by omega)) ?_)
    (refine VV.c rfl ?_; refine cr_held (o := 11) rfl hm2 ?_)
    repeat (first | refine VV.add rfl ?_ | refine VV.inc rfl rfl rfl ?_ | refine VV.mul rfl ?_ | refine VV.sub rfl (by omega) ?_ | refine VV.shl1 rfl (by omega) ?_ | refine VV.shl rfl ⟨by omega, by omega⟩ ?_ | refine VV.shr rfl ⟨by omega, by omega⟩ ?_ | refine VV.and rfl ?_ | refine VV.div rfl ⟨by omega, by omega, by omega⟩ ?_ | refine VV.rem rfl ⟨by omega, by omega, by omega⟩ ?_ | refine VV.s rfl ?_  | refine VV.b (b_ltT (by omega) (by omega)) ?_ | refine VV.b (b_ltF (by omega) (by omega)) ?_ | refine VV.b (b_geT (by omega) (by omega)) ?_ | refine VV.b (b_geF (by omega) (by omega)) ?_ | refine VV.b (b_gtT (by omega) (by omega)) ?_ | refine VV.b (b_gtF (by omega) (by omega)) ?_ | refine VV.b (b_leT (by omega) (by omega)) ?_ | refine VV.b (b_leF (by omega) (by omega)) ?_ | refine VV.b (b_eqT (by omega) (by omega)) ?_ | refine VV.b (b_eqF (by omega) (by omega)) ?_ | refine VV.b (b_neT (by omega) (by omega)) ?_ | refine VV.b (b_neF (by omega) (by omega)) ?_)
    (refine VV.c rfl ?_; refine cr_cell (o := 11) (w := 0) rfl hm2 hm4 hk (by omega) ?_)
    rw [show A (11 + 1) (3 * k + 0) = r k 0 from hr.r k 0 hk (by omega)]
    repeat (first | refine VV.add rfl ?_ | refine VV.inc rfl rfl rfl ?_ | refine VV.mul rfl ?_ | refine VV.sub rfl (by omega) ?_ | refine VV.shl1 rfl (by omega) ?_ | refine VV.shl rfl ⟨by omega, by omega⟩ ?_ | refine VV.shr rfl ⟨by omega, by omega⟩ ?_ | refine VV.and rfl ?_ | refine VV.div rfl ⟨by omega, by omega, by omega⟩ ?_ | refine VV.rem rfl ⟨by omega, by omega, by omega⟩ ?_ | refine VV.s rfl ?_  | refine VV.b (b_ltT (by omega) (by omega)) ?_ | refine VV.b (b_ltF (by omega) (by omega)) ?_ | refine VV.b (b_geT (by omega) (by omega)) ?_ | refine VV.b (b_geF (by omega) (by omega)) ?_ | refine VV.b (b_gtT (by omega) (by omega)) ?_ | refine VV.b (b_gtF (by omega) (by omega)) ?_ | refine VV.b (b_leT (by omega) (by omega)) ?_ | refine VV.b (b_leF (by omega) (by omega)) ?_ | refine VV.b (b_eqT (by omega) (by omega)) ?_ | refine VV.b (b_eqF (by omega) (by omega)) ?_ | refine VV.b (b_neT (by omega) (by omega)) ?_ | refine VV.b (b_neF (by omega) (by omega)) ?_)
    (refine VV.c rfl ?_; refine cr_cell (o := 11) (w := 1) rfl hm2 hm4 hk (by omega) ?_)
    rw [show A (11 + 1) (3 * k + 1) = r k 1 from hr.r k 1 hk (by omega)]
    repeat (first | refine VV.add rfl ?_ | refine VV.inc rfl rfl rfl ?_ | refine VV.mul rfl ?_ | refine VV.sub rfl (by omega) ?_ | refine VV.shl1 rfl (by omega) ?_ | refine VV.shl rfl ⟨by omega, by omega⟩ ?_ | refine VV.shr rfl ⟨by omega, by omega⟩ ?_ | refine VV.and rfl ?_ | refine VV.div rfl ⟨by omega, by omega, by omega⟩ ?_ | refine VV.rem rfl ⟨by omega, by omega, by omega⟩ ?_ | refine VV.s rfl ?_  | refine VV.b (b_ltT (by omega) (by omega)) ?_ | refine VV.b (b_ltF (by omega) (by omega)) ?_ | refine VV.b (b_geT (by omega) (by omega)) ?_ | refine VV.b (b_geF (by omega) (by omega)) ?_ | refine VV.b (b_gtT (by omega) (by omega)) ?_ | refine VV.b (b_gtF (by omega) (by omega)) ?_ | refine VV.b (b_leT (by omega) (by omega)) ?_ | refine VV.b (b_leF (by omega) (by omega)) ?_ | refine VV.b (b_eqT (by omega) (by omega)) ?_ | refine VV.b (b_eqF (by omega) (by omega)) ?_ | refine VV.b (b_neT (by omega) (by omega)) ?_ | refine VV.b (b_neF (by omega) (by omega)) ?_)
    (refine VV.c rfl ?_; refine cr_cell (o := 11) (w := 2) rfl hm2 hm4 hk (by omega) ?_)
    rw [show A (11 + 1) (3 * k + 2) = r k 2 from hr.r k 2 hk (by omega)]
    repeat (first | refine VV.add rfl ?_ | refine VV.inc rfl rfl rfl ?_ | refine VV.mul rfl ?_ | refine VV.sub rfl (by omega) ?_ | refine VV.shl1 rfl (by omega) ?_ | refine VV.shl rfl ⟨by omega, by omega⟩ ?_ | refine VV.shr rfl ⟨by omega, by omega⟩ ?_ | refine VV.and rfl ?_ | refine VV.div rfl ⟨by omega, by omega, by omega⟩ ?_ | refine VV.rem rfl ⟨by omega, by omega, by omega⟩ ?_ | refine VV.s rfl ?_  | refine VV.b (b_ltT (by omega) (by omega)) ?_ | refine VV.b (b_ltF (by omega) (by omega)) ?_ | refine VV.b (b_geT (by omega) (by omega)) ?_ | refine VV.b (b_geF (by omega) (by omega)) ?_ | refine VV.b (b_gtT (by omega) (by omega)) ?_ | refine VV.b (b_gtF (by omega) (by omega)) ?_ | refine VV.b (b_leT (by omega) (by omega)) ?_ | refine VV.b (b_leF (by omega) (by omega)) ?_ | refine VV.b (b_eqT (by omega) (by omega)) ?_ | refine VV.b (b_eqF (by omega) (by omega)) ?_ | refine VV.b (b_neT (by omega) (by omega)) ?_ | refine VV.b (b_neF (by omega) (by omega)) ?_)
    (refine VV.c rfl ?_; refine c_hasMinor (g := 3) rfl hn2 h4 ?_)
    cases hb : mnB n (r k 0) (r k 1) with
    | false =>
      repeat (first | refine VV.add rfl ?_ | refine VV.inc rfl rfl rfl ?_ | refine VV.mul rfl ?_ | refine VV.sub rfl (by omega) ?_ | refine VV.shl1 rfl (by omega) ?_ | refine VV.shl rfl ⟨by omega, by omega⟩ ?_ | refine VV.shr rfl ⟨by omega, by omega⟩ ?_ | refine VV.and rfl ?_ | refine VV.div rfl ⟨by omega, by omega, by omega⟩ ?_ | refine VV.rem rfl ⟨by omega, by omega, by omega⟩ ?_ | refine VV.s rfl ?_  | refine VV.b (b_ltT (by omega) (by omega)) ?_ | refine VV.b (b_ltF (by omega) (by omega)) ?_ | refine VV.b (b_geT (by omega) (by omega)) ?_ | refine VV.b (b_geF (by omega) (by omega)) ?_ | refine VV.b (b_gtT (by omega) (by omega)) ?_ | refine VV.b (b_gtF (by omega) (by omega)) ?_ | refine VV.b (b_leT (by omega) (by omega)) ?_ | refine VV.b (b_leF (by omega) (by omega)) ?_ | refine VV.b (b_eqT (by omega) (by omega)) ?_ | refine VV.b (b_eqF (by omega) (by omega)) ?_ | refine VV.b (b_neT (by omega) (by omega)) ?_ | refine VV.b (b_neF (by omega) (by omega)) ?_)
      exact VV.r rfl (q2 (nI k) p.1 p.2 f ⟨k, hk, hb⟩)
    | true =>
      obtain ⟨R, C, e1, e2, r1, r2, c1, c2, rc⟩ := mnB_spec h4 hb
      have nx2 := nxt (up p.1 k (mnr (up (B 4) (4 * i0 + j0) 0) R C - (r k 2).toInt64), up p.2 k (mnr (up (B 4) (4 * i0 + j0) 1) R C - (r k 2).toInt64 - (mnr (up (B 4) (4 * i0 + j0) 0) R C - (r k 2).toInt64))) (fun l hl => by
        by_cases e : l = k
        · subst e
          show _ ∧ up p.1 _ _ _ = _ ∧ up p.2 _ _ _ = _
          rw [up_s, up_s, e1, e2, nI_clamp (by omega), nI_clamp (by omega), ← e1, ← e2]
          exact ⟨hb, rfl, rfl⟩
        · show _ ∧ up p.1 _ _ _ = _ ∧ up p.2 _ _ _ = _
          rw [up_n e, up_n e]
          exact hI l (by omega))
      show VV _ _ _ _ [.int (nI 1)] _ _
      rw [e1, e2]
      repeat (first | refine VV.add rfl ?_ | refine VV.inc rfl rfl rfl ?_ | refine VV.mul rfl ?_ | refine VV.sub rfl (by omega) ?_ | refine VV.shl1 rfl (by omega) ?_ | refine VV.shl rfl ⟨by omega, by omega⟩ ?_ | refine VV.shr rfl ⟨by omega, by omega⟩ ?_ | refine VV.and rfl ?_ | refine VV.div rfl ⟨by omega, by omega, by omega⟩ ?_ | refine VV.rem rfl ⟨by omega, by omega, by omega⟩ ?_ | refine VV.s rfl ?_  | refine VV.b (b_ltT (by omega) (by omega)) ?_ | refine VV.b (b_ltF (by omega) (by omega)) ?_ | refine VV.b (b_geT (by omega) (by omega)) ?_ | refine VV.b (b_geF (by omega) (by omega)) ?_ | refine VV.b (b_gtT (by omega) (by omega)) ?_ | refine VV.b (b_gtF (by omega) (by omega)) ?_ | refine VV.b (b_leT (by omega) (by omega)) ?_ | refine VV.b (b_leF (by omega) (by omega)) ?_ | refine VV.b (b_eqT (by omega) (by omega)) ?_ | refine VV.b (b_eqF (by omega) (by omega)) ?_ | refine VV.b (b_neT (by omega) (by omega)) ?_ | refine VV.b (b_neF (by omega) (by omega)) ?_)
      (refine VV.c rfl ?_; refine cx_minorWith hn2 h4 hi0 hj0 r2 c2 rc (fun f => ?_))
      repeat (first | refine VV.add rfl ?_ | refine VV.inc rfl rfl rfl ?_ | refine VV.mul rfl ?_ | refine VV.sub rfl (by omega) ?_ | refine VV.shl1 rfl (by omega) ?_ | refine VV.shl rfl ⟨by omega, by omega⟩ ?_ | refine VV.shr rfl ⟨by omega, by omega⟩ ?_ | refine VV.and rfl ?_ | refine VV.div rfl ⟨by omega, by omega, by omega⟩ ?_ | refine VV.rem rfl ⟨by omega, by omega, by omega⟩ ?_ | refine VV.s rfl ?_  | refine VV.b (b_ltT (by omega) (by omega)) ?_ | refine VV.b (b_ltF (by omega) (by omega)) ?_ | refine VV.b (b_geT (by omega) (by omega)) ?_ | refine VV.b (b_geF (by omega) (by omega)) ?_ | refine VV.b (b_gtT (by omega) (by omega)) ?_ | refine VV.b (b_gtF (by omega) (by omega)) ?_ | refine VV.b (b_leT (by omega) (by omega)) ?_ | refine VV.b (b_leF (by omega) (by omega)) ?_ | refine VV.b (b_eqT (by omega) (by omega)) ?_ | refine VV.b (b_eqF (by omega) (by omega)) ?_ | refine VV.b (b_neT (by omega) (by omega)) ?_ | refine VV.b (b_neF (by omega) (by omega)) ?_)
      (refine VV.c rfl ?_; refine cx_minorWith hn2 h4 hi0 hj0 r2 c2 rc (fun f => ?_))
      repeat (first | refine VV.add rfl ?_ | refine VV.inc rfl rfl rfl ?_ | refine VV.mul rfl ?_ | refine VV.sub rfl (by omega) ?_ | refine VV.shl1 rfl (by omega) ?_ | refine VV.shl rfl ⟨by omega, by omega⟩ ?_ | refine VV.shr rfl ⟨by omega, by omega⟩ ?_ | refine VV.and rfl ?_ | refine VV.div rfl ⟨by omega, by omega, by omega⟩ ?_ | refine VV.rem rfl ⟨by omega, by omega, by omega⟩ ?_ | refine VV.s rfl ?_  | refine VV.b (b_ltT (by omega) (by omega)) ?_ | refine VV.b (b_ltF (by omega) (by omega)) ?_ | refine VV.b (b_geT (by omega) (by omega)) ?_ | refine VV.b (b_geF (by omega) (by omega)) ?_ | refine VV.b (b_gtT (by omega) (by omega)) ?_ | refine VV.b (b_gtF (by omega) (by omega)) ?_ | refine VV.b (b_leT (by omega) (by omega)) ?_ | refine VV.b (b_leF (by omega) (by omega)) ?_ | refine VV.b (b_eqT (by omega) (by omega)) ?_ | refine VV.b (b_eqF (by omega) (by omega)) ?_ | refine VV.b (b_neT (by omega) (by omega)) ?_ | refine VV.b (b_neF (by omega) (by omega)) ?_)
      (refine VV.c rfl ?_; refine cs_add (m := k) (up_s _ _ _) (by omega) ?_)
      rw [up_up, up_n3]
      have := nx2 f (some (.int (nI R))) (some (.int (nI C))) (some (.long (r k 2).toInt64)) none
      repeat (first | exact this | refine VV.add rfl ?_ | refine VV.inc rfl rfl rfl ?_ | refine VV.mul rfl ?_ | refine VV.sub rfl (by omega) ?_ | refine VV.shl1 rfl (by omega) ?_ | refine VV.shl rfl ⟨by omega, by omega⟩ ?_ | refine VV.shr rfl ⟨by omega, by omega⟩ ?_ | refine VV.and rfl ?_ | refine VV.div rfl ⟨by omega, by omega, by omega⟩ ?_ | refine VV.rem rfl ⟨by omega, by omega, by omega⟩ ?_ | refine VV.s rfl ?_  | refine VV.b (b_ltT (by omega) (by omega)) ?_ | refine VV.b (b_ltF (by omega) (by omega)) ?_ | refine VV.b (b_geT (by omega) (by omega)) ?_ | refine VV.b (b_geF (by omega) (by omega)) ?_ | refine VV.b (b_gtT (by omega) (by omega)) ?_ | refine VV.b (b_gtF (by omega) (by omega)) ?_ | refine VV.b (b_leT (by omega) (by omega)) ?_ | refine VV.b (b_leF (by omega) (by omega)) ?_ | refine VV.b (b_eqT (by omega) (by omega)) ?_ | refine VV.b (b_eqF (by omega) (by omega)) ?_ | refine VV.b (b_neT (by omega) (by omega)) ?_ | refine VV.b (b_neF (by omega) (by omega)) ?_)
  · intro p hI f x3 x4 x5 x6
    have hm2 : up τ 3502 (nI m) (100 * 11 + 2) = nI m := hr.h
    have := q1 p.1 p.2 f hI
    repeat (first | refine VV.add rfl ?_ | refine VV.inc rfl rfl rfl ?_ | refine VV.mul rfl ?_ | refine VV.sub rfl (by omega) ?_ | refine VV.shl1 rfl (by omega) ?_ | refine VV.shl rfl ⟨by omega, by omega⟩ ?_ | refine VV.shr rfl ⟨by omega, by omega⟩ ?_ | refine VV.and rfl ?_ | refine VV.div rfl ⟨by omega, by omega, by omega⟩ ?_ | refine VV.rem rfl ⟨by omega, by omega, by omega⟩ ?_ | refine VV.s rfl ?_  | refine VV.b (b_ltT (by omega) (by omega)) ?_ | refine VV.b (b_ltF (by omega) (by omega)) ?_ | refine VV.b (b_geT (by omega) (by omega)) ?_ | refine VV.b (b_geF (by omega) (by omega)) ?_ | refine VV.b (b_gtT (by omega) (by omega)) ?_ | refine VV.b (b_gtF (by omega) (by omega)) ?_ | refine VV.b (b_leT (by omega) (by omega)) ?_ | refine VV.b (b_leF (by omega) (by omega)) ?_ | refine VV.b (b_eqT (by omega) (by omega)) ?_ | refine VV.b (b_eqF (by omega) (by omega)) ?_ | refine VV.b (b_neT (by omega) (by omega)) ?_ | refine VV.b (b_neF (by omega) (by omega)) ?_)
    (refine VV.c rfl ?_; refine cr_held (o := 11) rfl hm2 ?_)
    repeat (first | refine VV.add rfl ?_ | refine VV.inc rfl rfl rfl ?_ | refine VV.mul rfl ?_ | refine VV.sub rfl (by omega) ?_ | refine VV.shl1 rfl (by omega) ?_ | refine VV.shl rfl ⟨by omega, by omega⟩ ?_ | refine VV.shr rfl ⟨by omega, by omega⟩ ?_ | refine VV.and rfl ?_ | refine VV.div rfl ⟨by omega, by omega, by omega⟩ ?_ | refine VV.rem rfl ⟨by omega, by omega, by omega⟩ ?_ | refine VV.s rfl ?_  | refine VV.b (b_ltT (by omega) (by omega)) ?_ | refine VV.b (b_ltF (by omega) (by omega)) ?_ | refine VV.b (b_geT (by omega) (by omega)) ?_ | refine VV.b (b_geF (by omega) (by omega)) ?_ | refine VV.b (b_gtT (by omega) (by omega)) ?_ | refine VV.b (b_gtF (by omega) (by omega)) ?_ | refine VV.b (b_leT (by omega) (by omega)) ?_ | refine VV.b (b_leF (by omega) (by omega)) ?_ | refine VV.b (b_eqT (by omega) (by omega)) ?_ | refine VV.b (b_eqF (by omega) (by omega)) ?_ | refine VV.b (b_neT (by omega) (by omega)) ?_ | refine VV.b (b_neF (by omega) (by omega)) ?_)
    exact VV.r rfl this
end XG
section X8
variable {d : Nat} {s : St}
theorem RX.sc3 {τ : Nat → Int32} {A : Nat → Nat → Int32} {B : Nat → Nat → Int64} (h : RX s τ A B) (x : Int32) (W U f : Nat → Int64) : RX s (up τ 3502 x) A (up (up (up B 36 W) 37 U) 5 f) ∧ FX τ A B (up τ 3502 x) A (up (up (up B 36 W) 37 U) 5 f) :=
  ⟨h.fn (c := s.c) (FN.ut (by decide) (FN.ub (by decide) (FN.ub (by decide) (FN.ub (by decide) FN.refl)))) (RS.mk h.now.n h.now.E h.now.V h.now.chip h.now.note h.now.seen h.now.event h.now.book), FX.ut (by decide) (FX.ub (by decide) (FX.ub (by decide) (FX.ub (by decide) FX.refl)))⟩
theorem x_may (i : IV s) {x w : Int32} : KX (d + 6) M_T_may [.ref 1, .int x, .int w] s (oMay s x w) := by
  intro S τ A B Q h q
  unfold oMay at q
  have hn : τ (100 * 3 + 2) = nI s.c.n := h.now.n
  have h4 := i.c.n4
  have h2 := i.c.n2
  have hE : ∀ i j, i < s.c.n → j < s.c.n → B 4 (4 * i + j) = s.c.E (4 * i + j) := fun a b ha hb => h.now.E a b ha hb
  refine CC.of rfl ?_
  repeat refine VV.s rfl ?_
  (refine VV.c rfl ?_; refine c_hasSpot (g := 3) rfl hn h4 ?_)
  cases hb : spB s.c.n x with
  | false =>
    rw [if_neg (fun z => by rw [hb] at z; cases z.1)] at q
    repeat (first | refine VV.add rfl ?_ | refine VV.inc rfl rfl rfl ?_ | refine VV.mul rfl ?_ | refine VV.sub rfl (by omega) ?_ | refine VV.shl1 rfl (by omega) ?_ | refine VV.shl rfl ⟨by omega, by omega⟩ ?_ | refine VV.shr rfl ⟨by omega, by omega⟩ ?_ | refine VV.and rfl ?_ | refine VV.div rfl ⟨by omega, by omega, by omega⟩ ?_ | refine VV.rem rfl ⟨by omega, by omega, by omega⟩ ?_ | refine VV.s rfl ?_  | refine VV.b (b_ltT (by omega) (by omega)) ?_ | refine VV.b (b_ltF (by omega) (by omega)) ?_ | refine VV.b (b_geT (by omega) (by omega)) ?_ | refine VV.b (b_geF (by omega) (by omega)) ?_ | refine VV.b (b_gtT (by omega) (by omega)) ?_ | refine VV.b (b_gtF (by omega) (by omega)) ?_ | refine VV.b (b_leT (by omega) (by omega)) ?_ | refine VV.b (b_leF (by omega) (by omega)) ?_ | refine VV.b (b_eqT (by omega) (by omega)) ?_ | refine VV.b (b_eqF (by omega) (by omega)) ?_ | refine VV.b (b_neT (by omega) (by omega)) ?_ | refine VV.b (b_neF (by omega) (by omega)) ?_)
    exact VV.r rfl (q τ A B h FX.refl)
  | true =>
    show VV _ _ _ _ [.int (nI 1)] _ _
    refine VV.s rfl ?_
    refine VV.b (b_eqF (by omega) (by omega)) ?_
    refine VV.s rfl ?_
    refine VV.s rfl ?_
    refine VV.i (fun c1 => ?_) (fun c1 => ?_)
    · rw [if_neg (fun z => by rw [rgB_lo (show w < nI 0 from c1)] at z; cases z.2)] at q
      repeat refine VV.s rfl ?_
      exact VV.r rfl (q τ A B h FX.refl)
    refine VV.s rfl ?_
    refine VV.s rfl ?_
    refine VV.s rfl ?_
    refine VV.i (fun c2 => ?_) (fun c2 => ?_)
    · rw [if_neg (fun z => by rw [rgB_hi c2] at z; cases z.2)] at q
      repeat refine VV.s rfl ?_
      exact VV.r rfl (q τ A B h FX.refl)
    rw [if_pos ⟨hb, rgB_in (show ¬ w < nI 0 from c1) c2⟩] at q
    obtain ⟨a, b, ha, hb10, hbn, rfl, hab⟩ := spB_spec hb
    have hn16 : s.c.n * s.c.n ≤ 4 * 4 := Nat.mul_le_mul h4 h4
    rw [cel_nI hb10 hab, mS_congr 199 (fun k _ => (mayP_congr h4 hE (4 * a + b) k).symm)] at q
    repeat refine VV.s rfl ?_
    (refine VV.c rfl ?_; refine cx_drawFirst hn h4 ha hbn (fun W U f hWU => ?_))
    have V := VV.inv (fun k (p : Nat × Int32 × Int32) => p = mS (mayP (B 4) s.c.n (4 * a + b)) k) (fun k p => VV (d + 6) M_T_may 44 [some (.ref 1), some (.int (nI (10 * a + b))), some (.int w), some (.int (nI p.1)), some (.int p.2.1), some (.int p.2.2), some (.int (vI k))] [] (HH S (up τ 3502 (nI (s.c.n * s.c.n))) A (up (up (up B 36 W) 37 U) 5 f)) Q) 199 ?_ ?_ 199 0 (0, -(nI 5), -(nI 5)) (by omega) rfl
    · rw [vI_0] at V
      repeat (first | exact V | refine VV.s rfl ?_)
    · intro k p hk hp nxt
      have hle := mS_le (mayP (B 4) s.c.n (4 * a + b)) k
      rw [← hp] at hle
      have nx2 := nxt _ (show mS _ (k + 1) = mS _ (k + 1) from rfl)
      rw [mS, ← hp] at nx2
      refine VV.s rfl ?_
      refine VV.s rfl ?_
      refine VV.s rfl ?_
      refine VV.i (fun c => absurd ((vI_gt (by omega)).mp c) (by omega)) (fun _ => ?_)
      repeat refine VV.s rfl ?_
      (refine VV.c rfl ?_; refine cs_areAllAbove (m := s.c.n * s.c.n) (up_s _ _ _) (by omega) (fun z => ?_) (fun z => ?_))
      · have hP : mayP (B 4) s.c.n (4 * a + b) k = true := decide_eq_true ((may_iff h4 (by omega) ha hbn hWU _).mp z)
        rw [if_pos hP] at nx2
        refine VV.s rfl ?_
        refine VV.b (b_eqF (by omega) (by omega)) ?_
        refine VV.s rfl ?_
        by_cases c0 : p.1 = 0
        · rw [if_pos c0] at nx2
          refine VV.s rfl ?_
          refine VV.b (b_neF (b := 0) c0 (by omega)) ?_
          repeat refine VV.s rfl ?_
          (refine VV.c rfl ?_; refine cl_raised ?_)
          rw [vI_rz]
          repeat refine VV.s rfl ?_
          (refine VV.c rfl ?_; refine cl_raised ?_)
          rw [vI_rz]
          refine VV.s rfl ?_
          refine VV.inc rfl rfl rfl ?_
          refine VV.inc1 rfl rfl rfl ?_
          repeat (first | exact nx2 | refine VV.s rfl ?_)
        · rw [if_neg c0] at nx2
          refine VV.s rfl ?_
          refine VV.b (b_neT (b := 0) c0 (by omega)) ?_
          repeat refine VV.s rfl ?_
          (refine VV.c rfl ?_; refine cl_raised ?_)
          rw [vI_rz]
          refine VV.s rfl ?_
          refine VV.inc rfl rfl rfl ?_
          refine VV.inc1 rfl rfl rfl ?_
          repeat (first | exact nx2 | refine VV.s rfl ?_)
      · have hP : mayP (B 4) s.c.n (4 * a + b) k = false := decide_eq_false (fun z2 => by
          obtain ⟨l, hl, z3⟩ := z
          exact z3 ((may_iff h4 (by omega) ha hbn hWU _).mpr z2 l hl))
        rw [if_neg (by rw [hP]; decide)] at nx2
        refine VV.s rfl ?_
        refine VV.b (b_eqT (by omega) (by omega)) ?_
        repeat (first | exact nx2 | refine VV.inc1 rfl rfl rfl ?_ | refine VV.s rfl ?_)
    · intro p hp
      subst hp
      have hle := mS_le (mayP (B 4) s.c.n (4 * a + b)) 199
      obtain ⟨rx, fx⟩ := h.sc3 (nI (s.c.n * s.c.n)) W U f
      unfold pick3 at q
      refine VV.s rfl ?_
      refine VV.s rfl ?_
      refine VV.s rfl ?_
      refine VV.b (q := 97) (by decide) ?_
      refine VV.s rfl ?_
      refine VV.s rfl ?_
      refine VV.i (fun c3 => ?_) (fun c3 => ?_)
      · rw [if_pos (show w = nI 0 from c3)] at q
        repeat refine VV.s rfl ?_
        exact VV.r rfl (q _ _ _ rx fx)
      rw [if_neg (show ¬ w = nI 0 from c3)] at q
      refine VV.s rfl ?_
      refine VV.s rfl ?_
      refine VV.s rfl ?_
      refine VV.i (fun c4 => ?_) (fun c4 => ?_)
      · rw [if_pos c4] at q
        repeat refine VV.s rfl ?_
        exact VV.r rfl (q _ _ _ rx fx)
      rw [if_neg c4] at q
      repeat refine VV.s rfl ?_
      exact VV.r rfl (q _ _ _ rx fx)
theorem x_fits (i : IV s) {x w : Int32} : KX (d + 6) M_T_fits [.ref 1, .int x, .int w] s (oFits s x w) := by
  intro S τ A B Q h q
  unfold oFits at q
  have hn : τ (100 * 3 + 2) = nI s.c.n := h.now.n
  have h4 := i.c.n4
  have h2 := i.c.n2
  have hp : 2 ^ s.c.n ≤ 2 ^ 4 := Nat.pow_le_pow_right (by omega) h4
  have hm4 := i.c.sm
  have hE : ∀ i j, i < s.c.n → j < s.c.n → B 4 (4 * i + j) = s.c.E (4 * i + j) := fun a b ha hb => h.now.E a b ha hb
  refine CC.of rfl ?_
  repeat refine VV.s rfl ?_
  (refine VV.c rfl ?_; refine c_hasSpot (g := 3) rfl hn h4 ?_)
  cases hb : spB s.c.n x with
  | false =>
    rw [if_neg (fun z => by rw [hb] at z; cases z.1)] at q
    repeat (first | refine VV.add rfl ?_ | refine VV.inc rfl rfl rfl ?_ | refine VV.mul rfl ?_ | refine VV.sub rfl (by omega) ?_ | refine VV.shl1 rfl (by omega) ?_ | refine VV.shl rfl ⟨by omega, by omega⟩ ?_ | refine VV.shr rfl ⟨by omega, by omega⟩ ?_ | refine VV.and rfl ?_ | refine VV.div rfl ⟨by omega, by omega, by omega⟩ ?_ | refine VV.rem rfl ⟨by omega, by omega, by omega⟩ ?_ | refine VV.s rfl ?_  | refine VV.b (b_ltT (by omega) (by omega)) ?_ | refine VV.b (b_ltF (by omega) (by omega)) ?_ | refine VV.b (b_geT (by omega) (by omega)) ?_ | refine VV.b (b_geF (by omega) (by omega)) ?_ | refine VV.b (b_gtT (by omega) (by omega)) ?_ | refine VV.b (b_gtF (by omega) (by omega)) ?_ | refine VV.b (b_leT (by omega) (by omega)) ?_ | refine VV.b (b_leF (by omega) (by omega)) ?_ | refine VV.b (b_eqT (by omega) (by omega)) ?_ | refine VV.b (b_eqF (by omega) (by omega)) ?_ | refine VV.b (b_neT (by omega) (by omega)) ?_ | refine VV.b (b_neF (by omega) (by omega)) ?_)
    exact VV.r rfl (q τ A B h FX.refl)
  | true =>
    show VV _ _ _ _ [.int (nI 1)] _ _
    repeat (first | refine VV.add rfl ?_ | refine VV.inc rfl rfl rfl ?_ | refine VV.mul rfl ?_ | refine VV.sub rfl (by omega) ?_ | refine VV.shl1 rfl (by omega) ?_ | refine VV.shl rfl ⟨by omega, by omega⟩ ?_ | refine VV.shr rfl ⟨by omega, by omega⟩ ?_ | refine VV.and rfl ?_ | refine VV.div rfl ⟨by omega, by omega, by omega⟩ ?_ | refine VV.rem rfl ⟨by omega, by omega, by omega⟩ ?_ | refine VV.s rfl ?_  | refine VV.b (b_ltT (by omega) (by omega)) ?_ | refine VV.b (b_ltF (by omega) (by omega)) ?_ | refine VV.b (b_geT (by omega) (by omega)) ?_ | refine VV.b (b_geF (by omega) (by omega)) ?_ | refine VV.b (b_gtT (by omega) (by omega)) ?_ | refine VV.b (b_gtF (by omega) (by omega)) ?_ | refine VV.b (b_leT (by omega) (by omega)) ?_ | refine VV.b (b_leF (by omega) (by omega)) ?_ | refine VV.b (b_eqT (by omega) (by omega)) ?_ | refine VV.b (b_eqF (by omega) (by omega)) ?_ | refine VV.b (b_neT (by omega) (by omega)) ?_ | refine VV.b (b_neF (by omega) (by omega)) ?_)
    (refine VV.c rfl ?_; refine cx_is01 ?_)
    cases e2 : o01 w with
    | false =>
      rw [if_neg (fun z => by rw [e2] at z; cases z.2)] at q
      repeat (first | refine VV.add rfl ?_ | refine VV.inc rfl rfl rfl ?_ | refine VV.mul rfl ?_ | refine VV.sub rfl (by omega) ?_ | refine VV.shl1 rfl (by omega) ?_ | refine VV.shl rfl ⟨by omega, by omega⟩ ?_ | refine VV.shr rfl ⟨by omega, by omega⟩ ?_ | refine VV.and rfl ?_ | refine VV.div rfl ⟨by omega, by omega, by omega⟩ ?_ | refine VV.rem rfl ⟨by omega, by omega, by omega⟩ ?_ | refine VV.s rfl ?_  | refine VV.b (b_ltT (by omega) (by omega)) ?_ | refine VV.b (b_ltF (by omega) (by omega)) ?_ | refine VV.b (b_geT (by omega) (by omega)) ?_ | refine VV.b (b_geF (by omega) (by omega)) ?_ | refine VV.b (b_gtT (by omega) (by omega)) ?_ | refine VV.b (b_gtF (by omega) (by omega)) ?_ | refine VV.b (b_leT (by omega) (by omega)) ?_ | refine VV.b (b_leF (by omega) (by omega)) ?_ | refine VV.b (b_eqT (by omega) (by omega)) ?_ | refine VV.b (b_eqF (by omega) (by omega)) ?_ | refine VV.b (b_neT (by omega) (by omega)) ?_ | refine VV.b (b_neF (by omega) (by omega)) ?_)
      exact VV.r rfl (q τ A B h FX.refl)
    | true =>
      rw [if_pos ⟨hb, e2⟩] at q
      obtain ⟨a, b, ha, hb10, hbn, rfl, hab⟩ := spB_spec hb
      rw [cel_nI hb10 hab, fS_congr 199 (fun k _ => (fitP_congr h4 hE (4 * a + b) k).symm)] at q
      show VV _ _ _ _ [.int (nI 1)] _ _
      repeat (first | refine VV.add rfl ?_ | refine VV.inc rfl rfl rfl ?_ | refine VV.mul rfl ?_ | refine VV.sub rfl (by omega) ?_ | refine VV.shl1 rfl (by omega) ?_ | refine VV.shl rfl ⟨by omega, by omega⟩ ?_ | refine VV.shr rfl ⟨by omega, by omega⟩ ?_ | refine VV.and rfl ?_ | refine VV.div rfl ⟨by omega, by omega, by omega⟩ ?_ | refine VV.rem rfl ⟨by omega, by omega, by omega⟩ ?_ | refine VV.s rfl ?_  | refine VV.b (b_ltT (by omega) (by omega)) ?_ | refine VV.b (b_ltF (by omega) (by omega)) ?_ | refine VV.b (b_geT (by omega) (by omega)) ?_ | refine VV.b (b_geF (by omega) (by omega)) ?_ | refine VV.b (b_gtT (by omega) (by omega)) ?_ | refine VV.b (b_gtF (by omega) (by omega)) ?_ | refine VV.b (b_leT (by omega) (by omega)) ?_ | refine VV.b (b_leF (by omega) (by omega)) ?_ | refine VV.b (b_eqT (by omega) (by omega)) ?_ | refine VV.b (b_eqF (by omega) (by omega)) ?_ | refine VV.b (b_neT (by omega) (by omega)) ?_ | refine VV.b (b_neF (by omega) (by omega)) ?_)
      (refine VV.c rfl ?_; refine cx_drawSeen hn h4 ha hbn hm4 h.now.seen (fun W U f hWU => ?_) (fun y W U f hz => ?_))
      · have fit_iff : ∀ k, (∀ l, l < s.c.m 3 → W l + U l * (vI k).toInt64 = 0) ↔ fitP (B 4) s.c.n (s.c.r 3) (s.c.m 3) (4 * a + b) k = true := by
          intro k
          unfold fitP
          rw [List.all_eq_true]
          have key : ∀ l, l < s.c.m 3 → (W l + U l * (vI k).toInt64 = 0 ↔ (mnB s.c.n (s.c.r 3 l 0) (s.c.r 3 l 1) && decide (mnr (up (B 4) (4 * a + b) (vI k).toInt64) (s.c.r 3 l 0).toNatClampNeg (s.c.r 3 l 1).toNatClampNeg = (s.c.r 3 l 2).toInt64)) = true) := by
            intro l hl
            obtain ⟨z1, z2, z3⟩ := hWU l hl
            obtain ⟨R, C, e1, e2, r1, r2, c1, c2, _⟩ := mnB_spec h4 z1
            rw [z1, z2, z3, Bool.true_and, decide_eq_true_eq, e1, e2, nI_clamp (by omega), nI_clamp (by omega), fit_sub _ (mnr_aff (B 4) (show a < 4 by omega) (show b < 4 by omega) (show R < 16 by omega) (show C < 16 by omega) (vI k).toInt64), sub0]
          exact ⟨fun g l hl => (key l (List.mem_range.mp hl)).mp (g l (List.mem_range.mp hl)), fun g l hl => (key l hl).mpr (g l (List.mem_range.mpr hl))⟩
        have V := VV.inv (fun k (p : Nat × Int32) => p = fS (fitP (B 4) s.c.n (s.c.r 3) (s.c.m 3) (4 * a + b)) k) (fun k p => VV (d + 6) M_T_fits 42 [some (.ref 1), some (.int (nI (10 * a + b))), some (.int w), some (.int (nI p.1)), some (.int p.2), some (.int (vI k))] [] (HH S (up τ 3502 (nI (s.c.m 3))) A (up (up (up B 36 W) 37 U) 5 f)) Q) 199 ?_ ?_ 199 0 (0, nI 0) (by omega) rfl
        · rw [vI_0] at V
          refine VV.s rfl ?_
          refine VV.b (b_neT (by omega) (by omega)) ?_
          repeat (first | exact V | refine VV.s rfl ?_)
        · intro k p hk hp nxt
          have hle := fS_le (fitP (B 4) s.c.n (s.c.r 3) (s.c.m 3) (4 * a + b)) k
          rw [← hp] at hle
          have nx2 := nxt _ (show fS _ (k + 1) = fS _ (k + 1) from rfl)
          rw [fS, ← hp] at nx2
          refine VV.s rfl ?_
          refine VV.s rfl ?_
          refine VV.s rfl ?_
          refine VV.i (fun c => absurd ((vI_gt (by omega)).mp c) (by omega)) (fun _ => ?_)
          repeat refine VV.s rfl ?_
          (refine VV.c rfl ?_; refine cs_areAllNought (m := s.c.m 3) (up_s _ _ _) (by omega) (fun z => ?_) (fun z => ?_))
          · rw [if_pos ((fit_iff k).mp z)] at nx2
            refine VV.s rfl ?_
            refine VV.b (b_eqF (by omega) (by omega)) ?_
            refine VV.s rfl ?_
            by_cases c0 : p.1 = 0
            · rw [if_pos c0] at nx2
              refine VV.s rfl ?_
              refine VV.b (b_neF (b := 0) c0 (by omega)) ?_
              repeat refine VV.s rfl ?_
              (refine VV.c rfl ?_; refine cl_raised ?_)
              rw [vI_rz]
              refine VV.s rfl ?_
              refine VV.s rfl ?_
              refine VV.inc rfl rfl rfl ?_
              refine VV.inc1 rfl rfl rfl ?_
              repeat (first | exact nx2 | refine VV.s rfl ?_)
            · rw [if_neg c0] at nx2
              refine VV.s rfl ?_
              refine VV.b (b_neT (b := 0) c0 (by omega)) ?_
              refine VV.s rfl ?_
              refine VV.s rfl ?_
              refine VV.inc rfl rfl rfl ?_
              refine VV.inc1 rfl rfl rfl ?_
              repeat (first | exact nx2 | refine VV.s rfl ?_)
          · rw [if_neg (fun z2 => by
              obtain ⟨l, hl, z3⟩ := z
              exact z3 ((fit_iff k).mpr z2 l hl))] at nx2
            refine VV.s rfl ?_
            refine VV.b (b_eqT (by omega) (by omega)) ?_
            repeat (first | exact nx2 | refine VV.inc1 rfl rfl rfl ?_ | refine VV.s rfl ?_)
        · intro p hp
          subst hp
          obtain ⟨rx, fx⟩ := h.sc3 (nI (s.c.m 3)) W U f
          refine VV.s rfl ?_
          refine VV.s rfl ?_
          refine VV.s rfl ?_
          refine VV.b (q := 87) (by decide) ?_
          refine VV.s rfl ?_
          refine VV.s rfl ?_
          refine VV.i (fun c3 => ?_) (fun c3 => ?_)
          · rw [if_pos (show w = nI 0 from c3)] at q
            repeat refine VV.s rfl ?_
            exact VV.r rfl (q _ _ _ rx fx)
          rw [if_neg (show ¬ w = nI 0 from c3)] at q
          repeat refine VV.s rfl ?_
          exact VV.r rfl (q _ _ _ rx fx)
      · obtain ⟨rx, fx⟩ := h.sc3 y W U f
        rw [fS_no 199 (fun k hk => by
          cases hf : fitP (B 4) s.c.n (s.c.r 3) (s.c.m 3) (4 * a + b) k with
          | false => rfl
          | true =>
            obtain ⟨l, hl, z⟩ := hz
            have := List.all_eq_true.mp hf l (List.mem_range.mpr hl)
            rw [z] at this
            cases this), ite_self] at q
        repeat (first | refine VV.add rfl ?_ | refine VV.inc rfl rfl rfl ?_ | refine VV.mul rfl ?_ | refine VV.sub rfl (by omega) ?_ | refine VV.shl1 rfl (by omega) ?_ | refine VV.shl rfl ⟨by omega, by omega⟩ ?_ | refine VV.shr rfl ⟨by omega, by omega⟩ ?_ | refine VV.and rfl ?_ | refine VV.div rfl ⟨by omega, by omega, by omega⟩ ?_ | refine VV.rem rfl ⟨by omega, by omega, by omega⟩ ?_ | refine VV.s rfl ?_  | refine VV.b (b_ltT (by omega) (by omega)) ?_ | refine VV.b (b_ltF (by omega) (by omega)) ?_ | refine VV.b (b_geT (by omega) (by omega)) ?_ | refine VV.b (b_geF (by omega) (by omega)) ?_ | refine VV.b (b_gtT (by omega) (by omega)) ?_ | refine VV.b (b_gtF (by omega) (by omega)) ?_ | refine VV.b (b_leT (by omega) (by omega)) ?_ | refine VV.b (b_leF (by omega) (by omega)) ?_ | refine VV.b (b_eqT (by omega) (by omega)) ?_ | refine VV.b (b_eqF (by omega) (by omega)) ?_ | refine VV.b (b_neT (by omega) (by omega)) ?_ | refine VV.b (b_neF (by omega) (by omega)) ?_)
        exact VV.r rfl (q _ _ _ rx fx)
end X8
