/-! the class's calls: numbers, chips, the vector, rows of what was seen, events, books -/
theorem spB_spec {n : Nat} {x : Int32} (h : spB n x = true) : ∃ i j, i < n ∧ j < 10 ∧ j < n ∧ x = nI (10 * i + j) ∧ 10 * i + j < 2147483648 := by
  rcases nI_or x with h1 | ⟨k, h1, rfl⟩
  · rw [spB_neg h1] at h; cases h
  · rw [spB_nI h1] at h
    simp only [Bool.and_eq_true, decide_eq_true_eq] at h
    exact ⟨k / 10, k % 10, h.1, by omega, h.2, by congr 1; omega, by omega⟩
theorem cel_nI {i j : Nat} (hj : j < 10) (h : 10 * i + j < 2147483648) : cel (nI (10 * i + j)) = 4 * i + j := by
  unfold cel
  rw [nI_clamp (by omega), show (10 * i + j) / 10 = i by omega, show (10 * i + j) % 10 = j by omega]
section X1
variable {d : Nat} {s : St}
theorem x_set (i : IV s) {x v : Int32} : KX (d + 3) M_T_set [.ref 1, .int x, .int v] s (oSet s x v) := by
  intro S τ A B Q h q
  unfold oSet at q
  have hn : τ (100 * 3 + 2) = nI s.c.n := h.now.n
  have h4 := i.c.n4
  refine CC.of rfl ?_
  repeat refine VV.s rfl ?_
  (refine VV.c rfl ?_; refine c_hasSpot (g := 3) rfl hn h4 ?_)
  cases hb : spB s.c.n x with
  | false =>
    rw [hb] at q
    repeat (first | refine VV.add rfl ?_ | refine VV.inc rfl rfl rfl ?_ | refine VV.mul rfl ?_ | refine VV.sub rfl (by omega) ?_ | refine VV.shl1 rfl (by omega) ?_ | refine VV.shl rfl ⟨by omega, by omega⟩ ?_ | refine VV.shr rfl ⟨by omega, by omega⟩ ?_ | refine VV.and rfl ?_ | refine VV.div rfl ⟨by omega, by omega, by omega⟩ ?_ | refine VV.rem rfl ⟨by omega, by omega, by omega⟩ ?_ | refine VV.s rfl ?_  | refine VV.b (b_ltT (by omega) (by omega)) ?_ | refine VV.b (b_ltF (by omega) (by omega)) ?_ | refine VV.b (b_geT (by omega) (by omega)) ?_ | refine VV.b (b_geF (by omega) (by omega)) ?_ | refine VV.b (b_gtT (by omega) (by omega)) ?_ | refine VV.b (b_gtF (by omega) (by omega)) ?_ | refine VV.b (b_leT (by omega) (by omega)) ?_ | refine VV.b (b_leF (by omega) (by omega)) ?_ | refine VV.b (b_eqT (by omega) (by omega)) ?_ | refine VV.b (b_eqF (by omega) (by omega)) ?_ | refine VV.b (b_neT (by omega) (by omega)) ?_ | refine VV.b (b_neF (by omega) (by omega)) ?_)
    exact VV.r rfl (q τ A B h FX.refl)
  | true =>
    rw [hb, if_pos rfl] at q
    obtain ⟨a, b, ha, hb10, hbn, rfl, hab⟩ := spB_spec hb
    rw [cel_nI hb10 hab] at q
    show VV _ _ _ _ [.int (nI 1)] _ _
    refine VV.s rfl ?_
    refine VV.b (b_neT (by omega) (by omega)) ?_
    refine VV.s rfl ?_
    refine VV.s rfl ?_
    refine VV.s rfl ?_
    refine VV.i (fun c1 => ?_) (fun c1 => ?_)
    · rw [rgB_lo c1] at q
      repeat refine VV.s rfl ?_
      exact VV.r rfl (q τ A B h FX.refl)
    refine VV.s rfl ?_
    refine VV.s rfl ?_
    refine VV.s rfl ?_
    refine VV.i (fun c2 => ?_) (fun c2 => ?_)
    · rw [rgB_hi c2] at q
      repeat refine VV.s rfl ?_
      exact VV.r rfl (q τ A B h FX.refl)
    rw [rgB_in c1 c2, if_pos rfl] at q
    repeat refine VV.s rfl ?_
    (refine VV.c rfl ?_; refine c_atSpot (g := 3) rfl hn h4 ha hbn ?_)
    (refine VV.c rfl ?_; refine cl_raised ?_)
    repeat refine VV.s rfl ?_
    (refine VV.c rfl ?_; refine c_putSpot (g := 3) rfl hn h4 ha hbn ?_)
    repeat refine VV.s rfl ?_
    (refine VV.c rfl ?_; refine cr_empty (o := 9) rfl ?_)
    repeat refine VV.s rfl ?_
    have e := h.now.E a b ha hbn
    have f : FN τ A B (up τ 902 (nI 0)) A (up B 4 (up (B 4) (4 * a + b) v.toInt64)) := FN.ut (by decide) (FN.ub (by decide) FN.refl)
    rw [← e] at q
    refine VV.r rfl (q _ _ _ (h.fn f (RS.mk h.now.n (fun k l hk hl => ?_) h.now.V h.now.chip ⟨rfl, fun k w hk _ => absurd hk (Nat.not_lt_zero k)⟩ h.now.seen h.now.event h.now.book)) f.fx)
    show up (B 4) (4 * a + b) v.toInt64 (4 * k + l) = up s.c.E (4 * a + b) v.toInt64 (4 * k + l)
    by_cases e : 4 * k + l = 4 * a + b
    · rw [e, up_s, up_s]
    · rw [up_n e, up_n e]
      exact h.now.E k l hk hl
theorem x_turn (i : IV s) : KX (d + 3) M_T_turn [.ref 1] s (oTurn s) := by
  intro S τ A B Q h q
  have hn : τ (100 * 3 + 2) = nI s.c.n := h.now.n
  have h4 := i.c.n4
  refine CC.of rfl ?_
  repeat refine VV.s rfl ?_
  (refine VV.c rfl ?_; refine c_turnOver (g := 3) rfl hn h4 (fun E hE => ?_))
  repeat refine VV.s rfl ?_
  (refine VV.c rfl ?_; refine cr_empty (o := 9) rfl ?_)
  repeat refine VV.s rfl ?_
  have f : FN τ A B (up τ 902 (nI 0)) A (up B 4 E) := FN.ut (by decide) (FN.ub (by decide) FN.refl)
  refine VV.r rfl (q _ _ _ (h.fn f (RS.mk h.now.n (fun k l hk hl => ?_) h.now.V h.now.chip ⟨rfl, fun k w hk _ => absurd hk (Nat.not_lt_zero k)⟩ h.now.seen h.now.event h.now.book)) f.fx)
  have hl4 : l < 4 := Nat.lt_of_lt_of_le hl h4
  show E (4 * k + l) = s.c.E (4 * ((4 * k + l) % 4) + (4 * k + l) / 4)
  rw [hE k l hk hl, show (4 * k + l) % 4 = l by omega, show (4 * k + l) / 4 = k by omega]
  exact h.now.E l k hl hk
theorem x_flip (i : IV s) : KX (d + 3) M_T_flip [.ref 1] s (oFlip s) := by
  intro S τ A B Q h q
  have hn : τ (100 * 3 + 2) = nI s.c.n := h.now.n
  have h4 := i.c.n4
  refine CC.of rfl ?_
  repeat refine VV.s rfl ?_
  (refine VV.c rfl ?_; refine c_turnAround (g := 3) rfl hn h4 (fun E hE => ?_))
  repeat refine VV.s rfl ?_
  (refine VV.c rfl ?_; refine cr_empty (o := 9) rfl ?_)
  repeat refine VV.s rfl ?_
  have f : FN τ A B (up τ 902 (nI 0)) A (up B 4 E) := FN.ut (by decide) (FN.ub (by decide) FN.refl)
  refine VV.r rfl (q _ _ _ (h.fn f (RS.mk h.now.n (fun k l hk hl => ?_) h.now.V h.now.chip ⟨rfl, fun k w hk _ => absurd hk (Nat.not_lt_zero k)⟩ h.now.seen h.now.event h.now.book)) f.fx)
  have hl4 : l < 4 := Nat.lt_of_lt_of_le hl h4
  have hk2 : k < s.c.n := hk
  have hl2 : l < s.c.n := hl
  show E (4 * k + l) = s.c.E (4 * (s.c.n - 1 - (4 * k + l) / 4) + (s.c.n - 1 - (4 * k + l) % 4))
  rw [hE k l hk hl, show (4 * k + l) % 4 = l by omega, show (4 * k + l) / 4 = k by omega]
  exact h.now.E (s.c.n - 1 - k) (s.c.n - 1 - l) (show s.c.n - 1 - k < s.c.n by omega) (show s.c.n - 1 - l < s.c.n by omega)
theorem x_clear (i : IV s) : KX (d + 1) M_T_clear [.ref 1] s (oClear s) := by
  intro S τ A B Q h q
  refine CC.of rfl ?_
  repeat refine VV.s rfl ?_
  (refine VV.c rfl ?_; refine cr_held (o := 6) rfl h.now.chip.h ?_)
  repeat refine VV.s rfl ?_
  (refine VV.c rfl ?_; refine cr_empty (o := 6) rfl ?_)
  repeat refine VV.s rfl ?_
  have f : FN τ A B (up τ 602 (nI 0)) A B := FN.ut (by decide) FN.refl
  exact VV.r rfl (q _ _ _ (h.fn f (RS.mk h.now.n h.now.E h.now.V ⟨rfl, fun k w hk _ => absurd hk (Nat.not_lt_zero k)⟩ h.now.note h.now.seen h.now.event h.now.book)) f.fx)
theorem cn_isInVector {S : Cl} {τ : Nat → Int32} {A : Nat → Nat → Int32} {B : Nat → Nat → Int64} {Q : Option Value → Hp → Prop} {n : Nat} (hn : τ (100 * 3 + 2) = nI n) (h4 : n ≤ 4) {x : Int32} (q : Q (some (.int (bI (ltB n x)))) (HH S τ A B)) : CC (d + 1) M_Scene_isInVector [.ref 2, .int x] (HH S τ A B) Q := by
  refine CC.of rfl ?_
  rcases nI_or x with hx | ⟨k, hk, rfl⟩
  · rw [ltB_neg hx] at q
    refine VV.s rfl ?_
    refine VV.s rfl ?_
    refine VV.t hx ?_
    repeat refine VV.s rfl ?_
    exact VV.r rfl q
  · rw [ltB_nI hk] at q
    repeat (first | refine VV.add rfl ?_ | refine VV.inc rfl rfl rfl ?_ | refine VV.mul rfl ?_ | refine VV.sub rfl (by omega) ?_ | refine VV.shl1 rfl (by omega) ?_ | refine VV.shl rfl ⟨by omega, by omega⟩ ?_ | refine VV.shr rfl ⟨by omega, by omega⟩ ?_ | refine VV.and rfl ?_ | refine VV.div rfl ⟨by omega, by omega, by omega⟩ ?_ | refine VV.rem rfl ⟨by omega, by omega, by omega⟩ ?_ | refine VV.s rfl ?_  | refine VV.b (b_ltT (by omega) (by omega)) ?_ | refine VV.b (b_ltF (by omega) (by omega)) ?_ | refine VV.b (b_geT (by omega) (by omega)) ?_ | refine VV.b (b_geF (by omega) (by omega)) ?_ | refine VV.b (b_gtT (by omega) (by omega)) ?_ | refine VV.b (b_gtF (by omega) (by omega)) ?_ | refine VV.b (b_leT (by omega) (by omega)) ?_ | refine VV.b (b_leF (by omega) (by omega)) ?_ | refine VV.b (b_eqT (by omega) (by omega)) ?_ | refine VV.b (b_eqF (by omega) (by omega)) ?_ | refine VV.b (b_neT (by omega) (by omega)) ?_ | refine VV.b (b_neF (by omega) (by omega)) ?_)
    (refine VV.c rfl ?_; refine c_lines (g := 3) rfl hn h4 ?_)
    by_cases c : k < n
    · rw [decide_eq_true c] at q
      repeat (first | refine VV.add rfl ?_ | refine VV.inc rfl rfl rfl ?_ | refine VV.mul rfl ?_ | refine VV.sub rfl (by omega) ?_ | refine VV.shl1 rfl (by omega) ?_ | refine VV.shl rfl ⟨by omega, by omega⟩ ?_ | refine VV.shr rfl ⟨by omega, by omega⟩ ?_ | refine VV.and rfl ?_ | refine VV.div rfl ⟨by omega, by omega, by omega⟩ ?_ | refine VV.rem rfl ⟨by omega, by omega, by omega⟩ ?_ | refine VV.s rfl ?_  | refine VV.b (b_ltT (by omega) (by omega)) ?_ | refine VV.b (b_ltF (by omega) (by omega)) ?_ | refine VV.b (b_geT (by omega) (by omega)) ?_ | refine VV.b (b_geF (by omega) (by omega)) ?_ | refine VV.b (b_gtT (by omega) (by omega)) ?_ | refine VV.b (b_gtF (by omega) (by omega)) ?_ | refine VV.b (b_leT (by omega) (by omega)) ?_ | refine VV.b (b_leF (by omega) (by omega)) ?_ | refine VV.b (b_eqT (by omega) (by omega)) ?_ | refine VV.b (b_eqF (by omega) (by omega)) ?_ | refine VV.b (b_neT (by omega) (by omega)) ?_ | refine VV.b (b_neF (by omega) (by omega)) ?_)
      exact VV.r rfl q
    · rw [decide_eq_false c] at q
      repeat (first | refine VV.add rfl ?_ | refine VV.inc rfl rfl rfl ?_ | refine VV.mul rfl ?_ | refine VV.sub rfl (by omega) ?_ | refine VV.shl1 rfl (by omega) ?_ | refine VV.shl rfl ⟨by omega, by omega⟩ ?_ | refine VV.shr rfl ⟨by omega, by omega⟩ ?_ | refine VV.and rfl ?_ | refine VV.div rfl ⟨by omega, by omega, by omega⟩ ?_ | refine VV.rem rfl ⟨by omega, by omega, by omega⟩ ?_ | refine VV.s rfl ?_  | refine VV.b (b_ltT (by omega) (by omega)) ?_ | refine VV.b (b_ltF (by omega) (by omega)) ?_ | refine VV.b (b_geT (by omega) (by omega)) ?_ | refine VV.b (b_geF (by omega) (by omega)) ?_ | refine VV.b (b_gtT (by omega) (by omega)) ?_ | refine VV.b (b_gtF (by omega) (by omega)) ?_ | refine VV.b (b_leT (by omega) (by omega)) ?_ | refine VV.b (b_leF (by omega) (by omega)) ?_ | refine VV.b (b_eqT (by omega) (by omega)) ?_ | refine VV.b (b_eqF (by omega) (by omega)) ?_ | refine VV.b (b_neT (by omega) (by omega)) ?_ | refine VV.b (b_neF (by omega) (by omega)) ?_)
      exact VV.r rfl q
theorem cn_vectorAt {S : Cl} {τ : Nat → Int32} {A : Nat → Nat → Int32} {B : Nat → Nat → Int64} {Q : Option Value → Hp → Prop} {n : Nat} (hn : τ (100 * 3 + 2) = nI n) (h4 : n ≤ 4) {k : Nat} (hk : k < n) (q : Q (some (.long (B 8 k))) (HH S τ A B)) : CC (d + 2) M_Scene_vectorAt [.ref 2, .int (nI k)] (HH S τ A B) Q := by
  refine CC.of rfl ?_
  repeat refine VV.s rfl ?_
  (refine VV.c rfl ?_; refine cn_isInVector hn h4 ?_)
  rw [ltB_nI (by omega), decide_eq_true hk]
  show VV _ _ _ _ [.int (nI 1)] _ _
  repeat (first | refine VV.jln (a := 8) (n := 4) rfl rfl rfl ?_ | refine VV.add rfl ?_ | refine VV.inc rfl rfl rfl ?_ | refine VV.mul rfl ?_ | refine VV.sub rfl (by omega) ?_ | refine VV.shl1 rfl (by omega) ?_ | refine VV.shl rfl ⟨by omega, by omega⟩ ?_ | refine VV.shr rfl ⟨by omega, by omega⟩ ?_ | refine VV.and rfl ?_ | refine VV.div rfl ⟨by omega, by omega, by omega⟩ ?_ | refine VV.rem rfl ⟨by omega, by omega, by omega⟩ ?_ | refine VV.s rfl ?_  | refine VV.b (b_ltT (by omega) (by omega)) ?_ | refine VV.b (b_ltF (by omega) (by omega)) ?_ | refine VV.b (b_geT (by omega) (by omega)) ?_ | refine VV.b (b_geF (by omega) (by omega)) ?_ | refine VV.b (b_gtT (by omega) (by omega)) ?_ | refine VV.b (b_gtF (by omega) (by omega)) ?_ | refine VV.b (b_leT (by omega) (by omega)) ?_ | refine VV.b (b_leF (by omega) (by omega)) ?_ | refine VV.b (b_eqT (by omega) (by omega)) ?_ | refine VV.b (b_eqF (by omega) (by omega)) ?_ | refine VV.b (b_neT (by omega) (by omega)) ?_ | refine VV.b (b_neF (by omega) (by omega)) ?_)
  refine VV.ja rfl rfl rfl (show k < 4 by omega) ?_
  repeat refine VV.s rfl ?_
  exact VV.r rfl q
theorem cn_putInVector {S : Cl} {τ : Nat → Int32} {A : Nat → Nat → Int32} {B : Nat → Nat → Int64} {Q : Option Value → Hp → Prop} {n : Nat} (hn : τ (100 * 3 + 2) = nI n) (h4 : n ≤ 4) {k : Nat} (hk : k < n) {v : Int64} (q : Q none (HH S τ A (up B 8 (up (B 8) k v)))) : CC (d + 2) M_Scene_putInVector [.ref 2, .int (nI k), .long v] (HH S τ A B) Q := by
  refine CC.of rfl ?_
  repeat refine VV.s rfl ?_
  (refine VV.c rfl ?_; refine cn_isInVector hn h4 ?_)
  rw [ltB_nI (by omega), decide_eq_true hk]
  show VV _ _ _ _ [.int (nI 1)] _ _
  repeat (first | refine VV.jln (a := 8) (n := 4) rfl rfl rfl ?_ | refine VV.add rfl ?_ | refine VV.inc rfl rfl rfl ?_ | refine VV.mul rfl ?_ | refine VV.sub rfl (by omega) ?_ | refine VV.shl1 rfl (by omega) ?_ | refine VV.shl rfl ⟨by omega, by omega⟩ ?_ | refine VV.shr rfl ⟨by omega, by omega⟩ ?_ | refine VV.and rfl ?_ | refine VV.div rfl ⟨by omega, by omega, by omega⟩ ?_ | refine VV.rem rfl ⟨by omega, by omega, by omega⟩ ?_ | refine VV.s rfl ?_  | refine VV.b (b_ltT (by omega) (by omega)) ?_ | refine VV.b (b_ltF (by omega) (by omega)) ?_ | refine VV.b (b_geT (by omega) (by omega)) ?_ | refine VV.b (b_geF (by omega) (by omega)) ?_ | refine VV.b (b_gtT (by omega) (by omega)) ?_ | refine VV.b (b_gtF (by omega) (by omega)) ?_ | refine VV.b (b_leT (by omega) (by omega)) ?_ | refine VV.b (b_leF (by omega) (by omega)) ?_ | refine VV.b (b_eqT (by omega) (by omega)) ?_ | refine VV.b (b_eqF (by omega) (by omega)) ?_ | refine VV.b (b_neT (by omega) (by omega)) ?_ | refine VV.b (b_neF (by omega) (by omega)) ?_)
  refine VV.js rfl rfl rfl (show k < 4 by omega) ?_
  repeat refine VV.s rfl ?_
  exact VV.r rfl q
theorem x_vector (i : IV s) {x v : Int32} : KX (d + 3) M_T_vector [.ref 1, .int x, .int v] s (oVector s x v) := by
  intro S τ A B Q h q
  unfold oVector at q
  have hn : τ (100 * 3 + 2) = nI s.c.n := h.now.n
  have h4 := i.c.n4
  refine CC.of rfl ?_
  repeat refine VV.s rfl ?_
  (refine VV.c rfl ?_; refine cn_isInVector hn h4 ?_)
  cases hb : ltB s.c.n x with
  | false =>
    rw [hb] at q
    repeat (first | refine VV.add rfl ?_ | refine VV.inc rfl rfl rfl ?_ | refine VV.mul rfl ?_ | refine VV.sub rfl (by omega) ?_ | refine VV.shl1 rfl (by omega) ?_ | refine VV.shl rfl ⟨by omega, by omega⟩ ?_ | refine VV.shr rfl ⟨by omega, by omega⟩ ?_ | refine VV.and rfl ?_ | refine VV.div rfl ⟨by omega, by omega, by omega⟩ ?_ | refine VV.rem rfl ⟨by omega, by omega, by omega⟩ ?_ | refine VV.s rfl ?_  | refine VV.b (b_ltT (by omega) (by omega)) ?_ | refine VV.b (b_ltF (by omega) (by omega)) ?_ | refine VV.b (b_geT (by omega) (by omega)) ?_ | refine VV.b (b_geF (by omega) (by omega)) ?_ | refine VV.b (b_gtT (by omega) (by omega)) ?_ | refine VV.b (b_gtF (by omega) (by omega)) ?_ | refine VV.b (b_leT (by omega) (by omega)) ?_ | refine VV.b (b_leF (by omega) (by omega)) ?_ | refine VV.b (b_eqT (by omega) (by omega)) ?_ | refine VV.b (b_eqF (by omega) (by omega)) ?_ | refine VV.b (b_neT (by omega) (by omega)) ?_ | refine VV.b (b_neF (by omega) (by omega)) ?_)
    exact VV.r rfl (q τ A B h FX.refl)
  | true =>
    rw [hb, if_pos rfl] at q
    obtain ⟨k, hk, rfl⟩ := ltB_spec hb
    rw [nI_clamp (by omega)] at q
    show VV _ _ _ _ [.int (nI 1)] _ _
    refine VV.s rfl ?_
    refine VV.b (b_neT (by omega) (by omega)) ?_
    refine VV.s rfl ?_
    refine VV.s rfl ?_
    refine VV.s rfl ?_
    refine VV.i (fun c1 => ?_) (fun c1 => ?_)
    · rw [rgB_lo c1] at q
      repeat refine VV.s rfl ?_
      exact VV.r rfl (q τ A B h FX.refl)
    refine VV.s rfl ?_
    refine VV.s rfl ?_
    refine VV.s rfl ?_
    refine VV.i (fun c2 => ?_) (fun c2 => ?_)
    · rw [rgB_hi c2] at q
      repeat refine VV.s rfl ?_
      exact VV.r rfl (q τ A B h FX.refl)
    rw [rgB_in c1 c2, if_pos rfl] at q
    repeat refine VV.s rfl ?_
    (refine VV.c rfl ?_; refine cn_vectorAt hn h4 hk ?_)
    (refine VV.c rfl ?_; refine cl_raised ?_)
    repeat refine VV.s rfl ?_
    (refine VV.c rfl ?_; refine cn_putInVector hn h4 hk ?_)
    repeat refine VV.s rfl ?_
    have e : B 8 k = s.c.V k := h.now.V k (by omega)
    have f : FN τ A B τ A (up B 8 (up (B 8) k v.toInt64)) := FN.ub (by decide) FN.refl
    rw [← e] at q
    refine VV.r rfl (q _ _ _ (h.fn f (RS.mk h.now.n h.now.E (fun l hl => ?_) h.now.chip h.now.note h.now.seen h.now.event h.now.book)) f.fx)
    show up (B 8) k v.toInt64 l = up s.c.V k v.toInt64 l
    by_cases e : l = k
    · rw [e, up_s, up_s]
    · rw [up_n e, up_n e]
      exact h.now.V l hl
end X1
