/-! the calls that a clause stands for, once more, with a closer frame -/
def KY (d u : Nat) (args : List Value) (s : St) (r : Int32 × St) : Prop := ∀ (S : Cl) (τ : Nat → Int32) (A : Nat → Nat → Int32) (B : Nat → Nat → Int64) (Q : Option Value → Hp → Prop), RX s τ A B → (∀ τ' A' B', RX r.2 τ' A' B' → FN τ A B τ' A' B' → Q (some (.int r.1)) (HH S τ' A' B')) → CC d u args (HH S τ A B) Q
def FK (τ : Nat → Int32) (A : Nat → Nat → Int32) (B : Nat → Nat → Int64) (τ' : Nat → Int32) (A' : Nat → Nat → Int32) (B' : Nat → Nat → Int64) : Prop := (∀ k, (k < 5800 ∨ k = 5822) → τ' k = τ k) ∧ (∀ k, (k < 58 ∨ (71 ≤ k ∧ k ≤ 74)) → A' k = A k) ∧ ∀ k, k < 58 → B' k = B k
def KL (d u : Nat) (args : List Value) (s : St) (r : Int32 × St) : Prop := ∀ (S : Cl) (τ : Nat → Int32) (A : Nat → Nat → Int32) (B : Nat → Nat → Int64) (Q : Option Value → Hp → Prop), RM s τ A B → (∀ τ' A' B', RM r.2 τ' A' B' → FK τ A B τ' A' B' → Q (some (.int r.1)) (HH S τ' A' B')) → CC d u args (HH S τ A B) Q
section FKs
variable {τ τ' τ'' : Nat → Int32} {A A' A'' : Nat → Nat → Int32} {B B' B'' : Nat → Nat → Int64}
theorem FK.refl : FK τ A B τ A B := ⟨fun _ _ => rfl, fun _ _ => rfl, fun _ _ => rfl⟩
theorem FK.fm (h : FK τ A B τ' A' B') : FM τ A B τ' A' B' := ⟨fun k hk => h.1 k (Or.inl hk), fun k hk => h.2.1 k (Or.inl hk), h.2.2⟩
theorem FK.trans (h : FK τ A B τ' A' B') (g : FK τ' A' B' τ'' A'' B'') : FK τ A B τ'' A'' B'' := ⟨fun k hk => (g.1 k hk).trans (h.1 k hk), fun k hk => (g.2.1 k hk).trans (h.2.1 k hk), fun k hk => (g.2.2 k hk).trans (h.2.2 k hk)⟩
theorem FK.ut {k : Nat} {x : Int32} (hk : 5800 ≤ k ∧ k ≠ 5822) (h : FK τ A B τ' A' B') : FK τ A B (up τ' k x) A' B' := ⟨fun l hl => by rw [up_n (by omega), h.1 l hl], h.2.1, h.2.2⟩
theorem FK.ua {k : Nat} {x : Nat → Int32} (hk : 58 ≤ k ∧ (k < 71 ∨ 74 < k)) (h : FK τ A B τ' A' B') : FK τ A B τ' (up A' k x) B' := ⟨h.1, fun l hl => by rw [up_n (by omega), h.2.1 l hl], h.2.2⟩
theorem FK.ub {k : Nat} {x : Nat → Int64} (hk : 58 ≤ k) (h : FK τ A B τ' A' B') : FK τ A B τ' A' (up B' k x) := ⟨h.1, h.2.1, fun l hl => by rw [up_n (by omega), h.2.2 l hl]⟩
theorem FK.ways (W V : Nat → Int64) : FK τ A B τ A (up (up B 68 W) 69 V) := FK.ub (by decide) (FK.ub (by decide) FK.refl)
theorem FN.ft (h : FN τ A B τ' A' B') : τ' 4002 = τ 4002 ∧ A' 41 = A 41 := ⟨h.t _ (by omega) (by omega) (by omega), h.a _ (by omega)⟩
end FKs
section Y7
variable {d : Nat} {s : St}
theorem y_size (i : IV s) {x : Int32} : KY (d + 3) M_T_size [.ref 1, .int x] s (oSize s x) := by
  intro S τ A B Q h q
  unfold oSize at q
  have hn : τ (100 * 3 + 2) = nI s.c.n := h.now.n
  refine CC.of rfl ?_
  refine VV.s rfl ?_
  refine VV.s rfl ?_
  refine VV.s rfl ?_
  refine VV.i (fun c1 => ?_) (fun c1 => ?_)
  · rw [rgB_lo c1] at q
    repeat refine VV.s rfl ?_
    exact VV.r rfl (q τ A B h FN.refl)
  refine VV.s rfl ?_
  refine VV.s rfl ?_
  refine VV.s rfl ?_
  refine VV.i (fun c2 => ?_) (fun c2 => ?_)
  · rw [rgB_hi c2] at q
    repeat refine VV.s rfl ?_
    exact VV.r rfl (q τ A B h FN.refl)
  rw [rgB_in c1 c2, if_pos rfl] at q
  obtain ⟨k, hk, rfl⟩ : ∃ k, k < 2147483648 ∧ x = nI k := (nI_or x).elim (fun z => absurd (Int32.lt_trans z (by decide)) c1) id
  have k2 : 2 ≤ k := Nat.le_of_not_lt (fun z => c1 ((nI_ltI hk (by omega)).mpr z))
  have k4 : k ≤ 4 := Nat.le_of_not_lt (fun z => c2 ((nI_ltI (by omega) hk).mpr z))
  rw [nI_clamp (by omega)] at q
  repeat refine VV.s rfl ?_
  (refine VV.c rfl ?_; refine c_lines (g := 3) rfl hn i.c.n4 ?_)
  repeat refine VV.s rfl ?_
  (refine VV.c rfl ?_; refine c_becomeUnit (g := 3) rfl k4 (fun E hE => ?_))
  repeat refine VV.s rfl ?_
  (refine VV.c rfl ?_; refine cr_empty (o := 6) rfl ?_)
  repeat refine VV.s rfl ?_
  (refine VV.c rfl ?_; refine c_fill (a := 8) rfl (fun V hV => ?_))
  repeat refine VV.s rfl ?_
  (refine VV.c rfl ?_; refine cr_empty (o := 9) rfl ?_)
  repeat refine VV.s rfl ?_
  have f : FN τ A B (up (up (up τ 302 (nI k)) 602 (nI 0)) 902 (nI 0)) A (up (up B 4 E) 8 V) := FN.ut (by decide) (FN.ut (by decide) (FN.ut (by decide) (FN.ub (by decide) (FN.ub (by decide) FN.refl))))
  refine VV.r rfl (q _ _ _ (h.fn f (RS.mk rfl (fun i j hi hj => ?_) (fun i hi => hV i hi) ⟨rfl, fun k w hk _ => absurd hk (Nat.not_lt_zero k)⟩ ⟨rfl, fun k w hk _ => absurd hk (Nat.not_lt_zero k)⟩ h.now.seen h.now.event h.now.book)) f)
  have hj4 : j < 4 := Nat.lt_of_lt_of_le hj k4
  show E (4 * i + j) = idm ((4 * i + j) / 4) ((4 * i + j) % 4)
  rw [hE i j hi hj, show (4 * i + j) / 4 = i by omega, show (4 * i + j) % 4 = j by omega]

theorem y_set (i : IV s) {x v : Int32} : KY (d + 3) M_T_set [.ref 1, .int x, .int v] s (oSet s x v) := by
  intro S τ A B Q h q
  unfold oSet at q
  have hn : τ (100 * 3 + 2) = nI s.c.n := h.now.n
  have h4 := i.c.n4
  refine CC.of rfl ?_
  repeat refine VV.s rfl ?_
  (refine VV.c rfl ?_; refine c_hasSpot (g := 3) rfl hn h4 ?_)
  cases hb : spB s.c.n x with
  | false =>
    rw [hb] at q
    repeat (first | refine VV.add rfl ?_ | refine VV.inc rfl rfl rfl ?_ | refine VV.mul rfl ?_ | refine VV.sub rfl (by omega) ?_ | refine VV.shl1 rfl (by omega) ?_ | refine VV.shl rfl ⟨by omega, by omega⟩ ?_ | refine VV.shr rfl ⟨by omega, by omega⟩ ?_ | refine VV.and rfl ?_ | refine VV.div rfl ⟨by omega, by omega, by omega⟩ ?_ | refine VV.rem rfl ⟨by omega, by omega, by omega⟩ ?_ | refine VV.s rfl ?_  | refine VV.b (b_ltT (by omega) (by omega)) ?_ | refine VV.b (b_ltF (by omega) (by omega)) ?_ | refine VV.b (b_geT (by omega) (by omega)) ?_ | refine VV.b (b_geF (by omega) (by omega)) ?_ | refine VV.b (b_gtT (by omega) (by omega)) ?_ | refine VV.b (b_gtF (by omega) (by omega)) ?_ | refine VV.b (b_leT (by omega) (by omega)) ?_ | refine VV.b (b_leF (by omega) (by omega)) ?_ | refine VV.b (b_eqT (by omega) (by omega)) ?_ | refine VV.b (b_eqF (by omega) (by omega)) ?_ | refine VV.b (b_neT (by omega) (by omega)) ?_ | refine VV.b (b_neF (by omega) (by omega)) ?_)
    exact VV.r rfl (q τ A B h FN.refl)
  | true =>
    rw [hb, if_pos rfl] at q
    obtain ⟨a, b, ha, hb10, hbn, rfl, hab⟩ := spB_spec hb
    rw [cel_nI hb10 hab] at q
    show VV _ _ _ _ [.int (nI 1)] _ _
    refine VV.s rfl ?_
    refine VV.b (b_neT (by omega) (by omega)) ?_
    refine VV.s rfl ?_
    refine VV.s rfl ?_
    refine VV.s rfl ?_
    refine VV.i (fun c1 => ?_) (fun c1 => ?_)
    · rw [rgB_lo c1] at q
      repeat refine VV.s rfl ?_
      exact VV.r rfl (q τ A B h FN.refl)
    refine VV.s rfl ?_
    refine VV.s rfl ?_
    refine VV.s rfl ?_
    refine VV.i (fun c2 => ?_) (fun c2 => ?_)
    · rw [rgB_hi c2] at q
      repeat refine VV.s rfl ?_
      exact VV.r rfl (q τ A B h FN.refl)
    rw [rgB_in c1 c2, if_pos rfl] at q
    repeat refine VV.s rfl ?_
    (refine VV.c rfl ?_; refine c_atSpot (g := 3) rfl hn h4 ha hbn ?_)
    (refine VV.c rfl ?_; refine cl_raised ?_)
    repeat refine VV.s rfl ?_
    (refine VV.c rfl ?_; refine c_putSpot (g := 3) rfl hn h4 ha hbn ?_)
    repeat refine VV.s rfl ?_
    (refine VV.c rfl ?_; refine cr_empty (o := 9) rfl ?_)
    repeat refine VV.s rfl ?_
    have e := h.now.E a b ha hbn
    have f : FN τ A B (up τ 902 (nI 0)) A (up B 4 (up (B 4) (4 * a + b) v.toInt64)) := FN.ut (by decide) (FN.ub (by decide) FN.refl)
    rw [← e] at q
    refine VV.r rfl (q _ _ _ (h.fn f (RS.mk h.now.n (fun k l hk hl => ?_) h.now.V h.now.chip ⟨rfl, fun k w hk _ => absurd hk (Nat.not_lt_zero k)⟩ h.now.seen h.now.event h.now.book)) f)
    show up (B 4) (4 * a + b) v.toInt64 (4 * k + l) = up s.c.E (4 * a + b) v.toInt64 (4 * k + l)
    by_cases e : 4 * k + l = 4 * a + b
    · rw [e, up_s, up_s]
    · rw [up_n e, up_n e]
      exact h.now.E k l hk hl
theorem y_flip (i : IV s) : KY (d + 3) M_T_flip [.ref 1] s (oFlip s) := by
  intro S τ A B Q h q
  have hn : τ (100 * 3 + 2) = nI s.c.n := h.now.n
  have h4 := i.c.n4
  refine CC.of rfl ?_
  repeat refine VV.s rfl ?_
  (refine VV.c rfl ?_; refine c_turnAround (g := 3) rfl hn h4 (fun E hE => ?_))
  repeat refine VV.s rfl ?_
  (refine VV.c rfl ?_; refine cr_empty (o := 9) rfl ?_)
  repeat refine VV.s rfl ?_
  have f : FN τ A B (up τ 902 (nI 0)) A (up B 4 E) := FN.ut (by decide) (FN.ub (by decide) FN.refl)
  refine VV.r rfl (q _ _ _ (h.fn f (RS.mk h.now.n (fun k l hk hl => ?_) h.now.V h.now.chip ⟨rfl, fun k w hk _ => absurd hk (Nat.not_lt_zero k)⟩ h.now.seen h.now.event h.now.book)) f)
  have hl4 : l < 4 := Nat.lt_of_lt_of_le hl h4
  have hk2 : k < s.c.n := hk
  have hl2 : l < s.c.n := hl
  show E (4 * k + l) = s.c.E (4 * (s.c.n - 1 - (4 * k + l) / 4) + (s.c.n - 1 - (4 * k + l) % 4))
  rw [hE k l hk hl, show (4 * k + l) % 4 = l by omega, show (4 * k + l) / 4 = k by omega]
  exact h.now.E (s.c.n - 1 - k) (s.c.n - 1 - l) (show s.c.n - 1 - k < s.c.n by omega) (show s.c.n - 1 - l < s.c.n by omega)
theorem y_clear (i : IV s) : KY (d + 1) M_T_clear [.ref 1] s (oClear s) := by
  intro S τ A B Q h q
  refine CC.of rfl ?_
  repeat refine VV.s rfl ?_
  (refine VV.c rfl ?_; refine cr_held (o := 6) rfl h.now.chip.h ?_)
  repeat refine VV.s rfl ?_
  (refine VV.c rfl ?_; refine cr_empty (o := 6) rfl ?_)
  repeat refine VV.s rfl ?_
  have f : FN τ A B (up τ 602 (nI 0)) A B := FN.ut (by decide) FN.refl
  exact VV.r rfl (q _ _ _ (h.fn f (RS.mk h.now.n h.now.E h.now.V ⟨rfl, fun k w hk _ => absurd hk (Nat.not_lt_zero k)⟩ h.now.note h.now.seen h.now.event h.now.book)) f)
theorem y_vector (i : IV s) {x v : Int32} : KY (d + 3) M_T_vector [.ref 1, .int x, .int v] s (oVector s x v) := by
  intro S τ A B Q h q
  unfold oVector at q
  have hn : τ (100 * 3 + 2) = nI s.c.n := h.now.n
  have h4 := i.c.n4
  refine CC.of rfl ?_
  repeat refine VV.s rfl ?_
  (refine VV.c rfl ?_; refine cn_isInVector hn h4 ?_)
  cases hb : ltB s.c.n x with
  | false =>
    rw [hb] at q
    repeat (first | refine VV.add rfl ?_ | refine VV.inc rfl rfl rfl ?_ | refine VV.mul rfl ?_ | refine VV.sub rfl (by omega) ?_ | refine VV.shl1 rfl (by omega) ?_ | refine VV.shl rfl ⟨by omega, by omega⟩ ?_ | refine VV.shr rfl ⟨by omega, by omega⟩ ?_ | refine VV.and rfl ?_ | refine VV.div rfl ⟨by omega, by omega, by omega⟩ ?_ | refine VV.rem rfl ⟨by omega, by omega, by omega⟩ ?_ | refine VV.s rfl ?_  | refine VV.b (b_ltT (by omega) (by omega)) ?_ | refine VV.b (b_ltF (by omega) (by omega)) ?_ | refine VV.b (b_geT (by omega) (by omega)) ?_ | refine VV.b (b_geF (by omega) (by omega)) ?_ | refine VV.b (b_gtT (by omega) (by omega)) ?_ | refine VV.b (b_gtF (by omega) (by omega)) ?_ | refine VV.b (b_leT (by omega) (by omega)) ?_ | refine VV.b (b_leF (by omega) (by omega)) ?_ | refine VV.b (b_eqT (by omega) (by omega)) ?_ | refine VV.b (b_eqF (by omega) (by omega)) ?_ | refine VV.b (b_neT (by omega) (by omega)) ?_ | refine VV.b (b_neF (by omega) (by omega)) ?_)
    exact VV.r rfl (q τ A B h FN.refl)
  | true =>
    rw [hb, if_pos rfl] at q
    obtain ⟨k, hk, rfl⟩ := ltB_spec hb
    rw [nI_clamp (by omega)] at q
    show VV _ _ _ _ [.int (nI 1)] _ _
    refine VV.s rfl ?_
    refine VV.b (b_neT (by omega) (by omega)) ?_
    refine VV.s rfl ?_
    refine VV.s rfl ?_
    refine VV.s rfl ?_
    refine VV.i (fun c1 => ?_) (fun c1 => ?_)
    · rw [rgB_lo c1] at q
      repeat refine VV.s rfl ?_
      exact VV.r rfl (q τ A B h FN.refl)
    refine VV.s rfl ?_
    refine VV.s rfl ?_
    refine VV.s rfl ?_
    refine VV.i (fun c2 => ?_) (fun c2 => ?_)
    · rw [rgB_hi c2] at q
      repeat refine VV.s rfl ?_
      exact VV.r rfl (q τ A B h FN.refl)
    rw [rgB_in c1 c2, if_pos rfl] at q
    repeat refine VV.s rfl ?_
    (refine VV.c rfl ?_; refine cn_vectorAt hn h4 hk ?_)
    (refine VV.c rfl ?_; refine cl_raised ?_)
    repeat refine VV.s rfl ?_
    (refine VV.c rfl ?_; refine cn_putInVector hn h4 hk ?_)
    repeat refine VV.s rfl ?_
    have e : B 8 k = s.c.V k := h.now.V k (by omega)
    have f : FN τ A B τ A (up B 8 (up (B 8) k v.toInt64)) := FN.ub (by decide) FN.refl
    rw [← e] at q
    refine VV.r rfl (q _ _ _ (h.fn f (RS.mk h.now.n h.now.E (fun l hl => ?_) h.now.chip h.now.note h.now.seen h.now.event h.now.book)) f)
    show up (B 8) k v.toInt64 l = up s.c.V k v.toInt64 l
    by_cases e : l = k
    · rw [e, up_s, up_s]
    · rw [up_n e, up_n e]
      exact h.now.V l hl
theorem y_chip (i : IV s) {a x v : Int32} : KY (d + 3) M_T_chip [.ref 1, .int a, .int x, .int v] s (oChip s a x v) := by
  intro S τ A B Q h q
  unfold oChip at q
  have hn : τ (100 * 3 + 2) = nI s.c.n := h.now.n
  have h4 := i.c.n4
  have h2 := i.c.n2
  refine CC.of rfl ?_
  repeat refine VV.s rfl ?_
  (refine VV.c rfl ?_; refine cx_chipPlace hn (by omega) h4 ?_)
  cases hb : chB s.c.n a x with
  | false =>
    rw [hb] at q
    repeat (first | refine VV.add rfl ?_ | refine VV.inc rfl rfl rfl ?_ | refine VV.mul rfl ?_ | refine VV.sub rfl (by omega) ?_ | refine VV.shl1 rfl (by omega) ?_ | refine VV.shl rfl ⟨by omega, by omega⟩ ?_ | refine VV.shr rfl ⟨by omega, by omega⟩ ?_ | refine VV.and rfl ?_ | refine VV.div rfl ⟨by omega, by omega, by omega⟩ ?_ | refine VV.rem rfl ⟨by omega, by omega, by omega⟩ ?_ | refine VV.s rfl ?_  | refine VV.b (b_ltT (by omega) (by omega)) ?_ | refine VV.b (b_ltF (by omega) (by omega)) ?_ | refine VV.b (b_geT (by omega) (by omega)) ?_ | refine VV.b (b_geF (by omega) (by omega)) ?_ | refine VV.b (b_gtT (by omega) (by omega)) ?_ | refine VV.b (b_gtF (by omega) (by omega)) ?_ | refine VV.b (b_leT (by omega) (by omega)) ?_ | refine VV.b (b_leF (by omega) (by omega)) ?_ | refine VV.b (b_eqT (by omega) (by omega)) ?_ | refine VV.b (b_eqF (by omega) (by omega)) ?_ | refine VV.b (b_neT (by omega) (by omega)) ?_ | refine VV.b (b_neF (by omega) (by omega)) ?_)
    exact VV.r rfl (q τ A B h FN.refl)
  | true =>
    rw [hb, if_pos rfl] at q
    show VV _ _ _ _ [.int (nI 1)] _ _
    refine VV.s rfl ?_
    refine VV.b (b_neT (by omega) (by omega)) ?_
    refine VV.s rfl ?_
    refine VV.s rfl ?_
    refine VV.s rfl ?_
    refine VV.i (fun c1 => ?_) (fun c1 => ?_)
    · rw [rgB_lo c1] at q
      repeat refine VV.s rfl ?_
      exact VV.r rfl (q τ A B h FN.refl)
    refine VV.s rfl ?_
    refine VV.s rfl ?_
    refine VV.s rfl ?_
    refine VV.i (fun c2 => ?_) (fun c2 => ?_)
    · rw [rgB_hi c2] at q
      repeat refine VV.s rfl ?_
      exact VV.r rfl (q τ A B h FN.refl)
    rw [rgB_in c1 c2, if_pos rfl] at q
    repeat refine VV.s rfl ?_
    (refine VV.c rfl ?_; refine cr_isFull (o := 6) rfl h.now.chip.h i.c.cm ?_)
    unfold oAdd at q
    by_cases cf : s.c.m 1 = 12
    · rw [if_pos cf] at q
      rw [show decide (s.c.m 1 = mostR 6) = true from decide_eq_true cf]
      repeat (first | refine VV.add rfl ?_ | refine VV.inc rfl rfl rfl ?_ | refine VV.mul rfl ?_ | refine VV.sub rfl (by omega) ?_ | refine VV.shl1 rfl (by omega) ?_ | refine VV.shl rfl ⟨by omega, by omega⟩ ?_ | refine VV.shr rfl ⟨by omega, by omega⟩ ?_ | refine VV.and rfl ?_ | refine VV.div rfl ⟨by omega, by omega, by omega⟩ ?_ | refine VV.rem rfl ⟨by omega, by omega, by omega⟩ ?_ | refine VV.s rfl ?_  | refine VV.b (b_ltT (by omega) (by omega)) ?_ | refine VV.b (b_ltF (by omega) (by omega)) ?_ | refine VV.b (b_geT (by omega) (by omega)) ?_ | refine VV.b (b_geF (by omega) (by omega)) ?_ | refine VV.b (b_gtT (by omega) (by omega)) ?_ | refine VV.b (b_gtF (by omega) (by omega)) ?_ | refine VV.b (b_leT (by omega) (by omega)) ?_ | refine VV.b (b_leF (by omega) (by omega)) ?_ | refine VV.b (b_eqT (by omega) (by omega)) ?_ | refine VV.b (b_eqF (by omega) (by omega)) ?_ | refine VV.b (b_neT (by omega) (by omega)) ?_ | refine VV.b (b_neF (by omega) (by omega)) ?_)
      exact VV.r rfl (q τ A B h FN.refl)
    · rw [if_neg cf] at q
      rw [show decide (s.c.m 1 = mostR 6) = false from decide_eq_false cf]
      repeat (first | refine VV.add rfl ?_ | refine VV.inc rfl rfl rfl ?_ | refine VV.mul rfl ?_ | refine VV.sub rfl (by omega) ?_ | refine VV.shl1 rfl (by omega) ?_ | refine VV.shl rfl ⟨by omega, by omega⟩ ?_ | refine VV.shr rfl ⟨by omega, by omega⟩ ?_ | refine VV.and rfl ?_ | refine VV.div rfl ⟨by omega, by omega, by omega⟩ ?_ | refine VV.rem rfl ⟨by omega, by omega, by omega⟩ ?_ | refine VV.s rfl ?_  | refine VV.b (b_ltT (by omega) (by omega)) ?_ | refine VV.b (b_ltF (by omega) (by omega)) ?_ | refine VV.b (b_geT (by omega) (by omega)) ?_ | refine VV.b (b_geF (by omega) (by omega)) ?_ | refine VV.b (b_gtT (by omega) (by omega)) ?_ | refine VV.b (b_gtF (by omega) (by omega)) ?_ | refine VV.b (b_leT (by omega) (by omega)) ?_ | refine VV.b (b_leF (by omega) (by omega)) ?_ | refine VV.b (b_eqT (by omega) (by omega)) ?_ | refine VV.b (b_eqF (by omega) (by omega)) ?_ | refine VV.b (b_neT (by omega) (by omega)) ?_ | refine VV.b (b_neF (by omega) (by omega)) ?_)
      (refine VV.c rfl ?_; refine cr_add (o := 6) rfl h.now.chip.h (Nat.lt_of_le_of_ne i.c.cm cf) ?_)
      repeat refine VV.s rfl ?_
      have f : FN τ A B (up τ (100 * 6 + 2) (nI (s.c.m 1 + 1))) (up A (6 + 1) (up (up (up (A (6 + 1)) (3 * s.c.m 1) a) (3 * s.c.m 1 + 1) x) (3 * s.c.m 1 + 2) v)) B := FN.ut (by decide) (FN.ua (by decide) FN.refl)
      exact VV.r rfl (q _ _ _ (h.fn f (RS.mk h.now.n h.now.E h.now.V (h.now.chip.add (x := a) (y := x) (z := v)) h.now.note h.now.seen h.now.event h.now.book)) f)
theorem y_take (i : IV s) : KY (d + 5) M_T_take [.ref 1] s (oTake s) := by
  intro S τ A B Q h q
  unfold oTake at q
  have hn : τ (100 * 3 + 2) = nI s.c.n := h.now.n
  have h4 := i.c.n4
  have h2 := i.c.n2
  refine CC.of rfl ?_
  repeat refine VV.s rfl ?_
  (refine VV.c rfl ?_; refine cx_mult i.c h.now (fun E hE => ?_))
  repeat refine VV.s rfl ?_
  (refine VV.c rfl ?_; refine c_greatest (g := 32) rfl (up_s _ _ _) h4 (by omega) (fun m hm1 hm2 => ?_))
  repeat refine VV.s rfl ?_
  refine VV.cle (fun c => ?_) (fun c => ?_)
  · have no : tkB (prodE s.c) s.c.n = false := by
      cases hb : tkB (prodE s.c) s.c.n with
      | false => rfl
      | true =>
        obtain ⟨a, b, ha, hb2, e⟩ := hm2
        have := tkB_t.mp hb a b ha hb2
        rw [← hE a b ha hb2] at this
        rw [e] at c
        exact absurd c (le99.mpr this)
    rw [no] at q
    repeat refine VV.s rfl ?_
    exact VV.r rfl (q _ _ _ (h.fn (c := s.c) (FN.pr _ _) (RS.mk h.now.n h.now.E h.now.V h.now.chip h.now.note h.now.seen h.now.event h.now.book)) (FN.pr _ _))
  · have yes : tkB (prodE s.c) s.c.n = true := tkB_t.mpr (fun a b ha hb => by
      rw [← hE a b ha hb]
      exact Int64.le_trans (hm1 a b ha hb) (le99.mp c))
    rw [yes, if_pos rfl] at q
    repeat refine VV.s rfl ?_
    (refine VV.c rfl ?_; refine c_copyFrom (g := 3) (o := 32) rfl rfl (by decide) (up_s _ _ _) h4 (fun E2 hE2 => ?_))
    repeat refine VV.s rfl ?_
    (refine VV.c rfl ?_; refine cr_empty (o := 9) rfl ?_)
    repeat refine VV.s rfl ?_
    have f : FN τ A B (up (up (up τ 3202 (nI s.c.n)) (100 * 3 + 2) (nI s.c.n)) (100 * 9 + 2) (nI 0)) A (up (up B 33 E) (3 + 1) E2) := FN.ut (by decide) (FN.ut (by decide) (FN.ut (by decide) (FN.ub (by decide) (FN.ub (by decide) FN.refl))))
    refine VV.r rfl (q _ _ _ (h.fn f (RS.mk (rfl) (fun a b ha hb => ?_) h.now.V h.now.chip (⟨rfl, fun k w hk _ => absurd hk (Nat.not_lt_zero k)⟩) h.now.seen h.now.event h.now.book)) f)
    exact (hE2 a b ha hb).trans (hE a b ha hb)
theorem l_size (i : IV s) {x : Int32} : KL (d + 3) M_M_size [.ref 58, .int x] s (oSize s x) := by
  intro S τ A B Q h q
  unfold oSize at q
  have hn := h.n
  refine CC.of rfl ?_
  repeat (first | refine VV.g58n rfl rfl hn ?_ | refine VV.g58 rfl rfl ?_ | refine VV.pf rfl rfl ?_ | refine VV.add rfl ?_ | refine VV.inc rfl rfl rfl ?_ | refine VV.mul rfl ?_ | refine VV.sub rfl (by omega) ?_ | refine VV.shl1 rfl (by omega) ?_ | refine VV.shl rfl ⟨by omega, by omega⟩ ?_ | refine VV.shr rfl ⟨by omega, by omega⟩ ?_ | refine VV.and rfl ?_ | refine VV.div rfl ⟨by omega, by omega, by omega⟩ ?_ | refine VV.rem rfl ⟨by omega, by omega, by omega⟩ ?_ | refine VV.s rfl ?_  | refine VV.b (b_ltT (by omega) (by omega)) ?_ | refine VV.b (b_ltF (by omega) (by omega)) ?_ | refine VV.b (b_geT (by omega) (by omega)) ?_ | refine VV.b (b_geF (by omega) (by omega)) ?_ | refine VV.b (b_gtT (by omega) (by omega)) ?_ | refine VV.b (b_gtF (by omega) (by omega)) ?_ | refine VV.b (b_leT (by omega) (by omega)) ?_ | refine VV.b (b_leF (by omega) (by omega)) ?_ | refine VV.b (b_eqT (by omega) (by omega)) ?_ | refine VV.b (b_eqF (by omega) (by omega)) ?_ | refine VV.b (b_neT (by omega) (by omega)) ?_ | refine VV.b (b_neF (by omega) (by omega)) ?_)
  (refine VV.c rfl ?_; refine cm_in (lo := nI 2) (hi := nI 4) rfl rfl ?_)
  rcases rgB_cases (a := 2) (b := 4) (by omega) (by omega) x with ⟨e, k, h2, h4, rfl⟩ | ⟨e, hx⟩
  · rw [e]
    rw [e, if_pos rfl, nI_clamp (by omega)] at q
    show VV _ _ _ _ [.int (nI 1)] _ _
    repeat (first | refine VV.g58n rfl rfl hn ?_ | refine VV.g58 rfl rfl ?_ | refine VV.pf rfl rfl ?_ | refine VV.add rfl ?_ | refine VV.inc rfl rfl rfl ?_ | refine VV.mul rfl ?_ | refine VV.sub rfl (by omega) ?_ | refine VV.shl1 rfl (by omega) ?_ | refine VV.shl rfl ⟨by omega, by omega⟩ ?_ | refine VV.shr rfl ⟨by omega, by omega⟩ ?_ | refine VV.and rfl ?_ | refine VV.div rfl ⟨by omega, by omega, by omega⟩ ?_ | refine VV.rem rfl ⟨by omega, by omega, by omega⟩ ?_ | refine VV.s rfl ?_  | refine VV.b (b_ltT (by omega) (by omega)) ?_ | refine VV.b (b_ltF (by omega) (by omega)) ?_ | refine VV.b (b_geT (by omega) (by omega)) ?_ | refine VV.b (b_geF (by omega) (by omega)) ?_ | refine VV.b (b_gtT (by omega) (by omega)) ?_ | refine VV.b (b_gtF (by omega) (by omega)) ?_ | refine VV.b (b_leT (by omega) (by omega)) ?_ | refine VV.b (b_leF (by omega) (by omega)) ?_ | refine VV.b (b_eqT (by omega) (by omega)) ?_ | refine VV.b (b_eqF (by omega) (by omega)) ?_ | refine VV.b (b_neT (by omega) (by omega)) ?_ | refine VV.b (b_neF (by omega) (by omega)) ?_)
    repeat (first | refine VV.g58 rfl rfl ?_ | refine VV.pf rfl rfl ?_ | refine VV.add rfl ?_ | refine VV.inc rfl rfl rfl ?_ | refine VV.mul rfl ?_ | refine VV.sub rfl (by omega) ?_ | refine VV.shl1 rfl (by omega) ?_ | refine VV.shl rfl ⟨by omega, by omega⟩ ?_ | refine VV.shr rfl ⟨by omega, by omega⟩ ?_ | refine VV.and rfl ?_ | refine VV.div rfl ⟨by omega, by omega, by omega⟩ ?_ | refine VV.rem rfl ⟨by omega, by omega, by omega⟩ ?_ | refine VV.s rfl ?_  | refine VV.b (b_ltT (by omega) (by omega)) ?_ | refine VV.b (b_ltF (by omega) (by omega)) ?_ | refine VV.b (b_geT (by omega) (by omega)) ?_ | refine VV.b (b_geF (by omega) (by omega)) ?_ | refine VV.b (b_gtT (by omega) (by omega)) ?_ | refine VV.b (b_gtF (by omega) (by omega)) ?_ | refine VV.b (b_leT (by omega) (by omega)) ?_ | refine VV.b (b_leF (by omega) (by omega)) ?_ | refine VV.b (b_eqT (by omega) (by omega)) ?_ | refine VV.b (b_eqF (by omega) (by omega)) ?_ | refine VV.b (b_neT (by omega) (by omega)) ?_ | refine VV.b (b_neF (by omega) (by omega)) ?_)
    (refine VV.c rfl ?_; refine cm_begins (fun f g hf hg => ?_))
    repeat (first | refine VV.g58 rfl rfl ?_ | refine VV.pf rfl rfl ?_ | refine VV.add rfl ?_ | refine VV.inc rfl rfl rfl ?_ | refine VV.mul rfl ?_ | refine VV.sub rfl (by omega) ?_ | refine VV.shl1 rfl (by omega) ?_ | refine VV.shl rfl ⟨by omega, by omega⟩ ?_ | refine VV.shr rfl ⟨by omega, by omega⟩ ?_ | refine VV.and rfl ?_ | refine VV.div rfl ⟨by omega, by omega, by omega⟩ ?_ | refine VV.rem rfl ⟨by omega, by omega, by omega⟩ ?_ | refine VV.s rfl ?_  | refine VV.b (b_ltT (by omega) (by omega)) ?_ | refine VV.b (b_ltF (by omega) (by omega)) ?_ | refine VV.b (b_geT (by omega) (by omega)) ?_ | refine VV.b (b_geF (by omega) (by omega)) ?_ | refine VV.b (b_gtT (by omega) (by omega)) ?_ | refine VV.b (b_gtF (by omega) (by omega)) ?_ | refine VV.b (b_leT (by omega) (by omega)) ?_ | refine VV.b (b_leF (by omega) (by omega)) ?_ | refine VV.b (b_eqT (by omega) (by omega)) ?_ | refine VV.b (b_eqF (by omega) (by omega)) ?_ | refine VV.b (b_neT (by omega) (by omega)) ?_ | refine VV.b (b_neF (by omega) (by omega)) ?_)
    refine VV.r rfl (q _ _ _ (RM.mk (rfl) (fun i j hi hj => ?_) (fun i hi => ?_) (rfl) (fun k hk => absurd hk (Nat.not_lt_zero k)) (rfl) (fun k hk => absurd hk (Nat.not_lt_zero k)) h.sm h.se h.em h.ev h.bm h.bk h.tm h.tx h.ts h.tl h.ti h.im0 h.im1) (FK.ut (by decide) (FK.ut (by decide) (FK.ua (by decide) (FK.ua (by decide) (FK.ut (by decide) FK.refl))))))
    · have hi4 : i < 4 := Nat.lt_of_lt_of_le hi h4
      have hj4 : j < 4 := Nat.lt_of_lt_of_le hj h4
      show (f (4 * i + j)).toInt64 = uni (4 * i + j)
      unfold uni idm
      rw [hf _ (by omega)]
      by_cases c : (4 * i + j) / 4 = (4 * i + j) % 4
      · rw [if_pos c, if_pos c]; rfl
      · rw [if_neg c, if_neg c]; rfl
    · show (g i).toInt64 = 0
      rw [hg i hi]; rfl
  · rw [e]
    rw [e] at q
    repeat (first | refine VV.g58 rfl rfl ?_ | refine VV.pf rfl rfl ?_ | refine VV.add rfl ?_ | refine VV.inc rfl rfl rfl ?_ | refine VV.mul rfl ?_ | refine VV.sub rfl (by omega) ?_ | refine VV.shl1 rfl (by omega) ?_ | refine VV.shl rfl ⟨by omega, by omega⟩ ?_ | refine VV.shr rfl ⟨by omega, by omega⟩ ?_ | refine VV.and rfl ?_ | refine VV.div rfl ⟨by omega, by omega, by omega⟩ ?_ | refine VV.rem rfl ⟨by omega, by omega, by omega⟩ ?_ | refine VV.s rfl ?_  | refine VV.b (b_ltT (by omega) (by omega)) ?_ | refine VV.b (b_ltF (by omega) (by omega)) ?_ | refine VV.b (b_geT (by omega) (by omega)) ?_ | refine VV.b (b_geF (by omega) (by omega)) ?_ | refine VV.b (b_gtT (by omega) (by omega)) ?_ | refine VV.b (b_gtF (by omega) (by omega)) ?_ | refine VV.b (b_leT (by omega) (by omega)) ?_ | refine VV.b (b_leF (by omega) (by omega)) ?_ | refine VV.b (b_eqT (by omega) (by omega)) ?_ | refine VV.b (b_eqF (by omega) (by omega)) ?_ | refine VV.b (b_neT (by omega) (by omega)) ?_ | refine VV.b (b_neF (by omega) (by omega)) ?_)
    exact VV.r rfl (q τ A B h FK.refl)
theorem l_set (i : IV s) {x v : Int32} : KL (d + 3) M_M_set [.ref 58, .int x, .int v] s (oSet s x v) := by
  intro S τ A B Q h q
  unfold oSet at q
  have hn := h.n
  have h4 := i.c.n4
  refine CC.of rfl ?_
  repeat (first | refine VV.g58 rfl rfl ?_ | refine VV.pf rfl rfl ?_ | refine VV.add rfl ?_ | refine VV.inc rfl rfl rfl ?_ | refine VV.mul rfl ?_ | refine VV.sub rfl (by omega) ?_ | refine VV.shl1 rfl (by omega) ?_ | refine VV.shl rfl ⟨by omega, by omega⟩ ?_ | refine VV.shr rfl ⟨by omega, by omega⟩ ?_ | refine VV.and rfl ?_ | refine VV.div rfl ⟨by omega, by omega, by omega⟩ ?_ | refine VV.rem rfl ⟨by omega, by omega, by omega⟩ ?_ | refine VV.s rfl ?_  | refine VV.b (b_ltT (by omega) (by omega)) ?_ | refine VV.b (b_ltF (by omega) (by omega)) ?_ | refine VV.b (b_geT (by omega) (by omega)) ?_ | refine VV.b (b_geF (by omega) (by omega)) ?_ | refine VV.b (b_gtT (by omega) (by omega)) ?_ | refine VV.b (b_gtF (by omega) (by omega)) ?_ | refine VV.b (b_leT (by omega) (by omega)) ?_ | refine VV.b (b_leF (by omega) (by omega)) ?_ | refine VV.b (b_eqT (by omega) (by omega)) ?_ | refine VV.b (b_eqF (by omega) (by omega)) ?_ | refine VV.b (b_neT (by omega) (by omega)) ?_ | refine VV.b (b_neF (by omega) (by omega)) ?_)
  (refine VV.c rfl ?_; refine cm_isSpot hn h4 ?_)
  cases hb : spB s.c.n x with
  | false =>
    rw [hb] at q
    repeat (first | refine VV.g58 rfl rfl ?_ | refine VV.pf rfl rfl ?_ | refine VV.add rfl ?_ | refine VV.inc rfl rfl rfl ?_ | refine VV.mul rfl ?_ | refine VV.sub rfl (by omega) ?_ | refine VV.shl1 rfl (by omega) ?_ | refine VV.shl rfl ⟨by omega, by omega⟩ ?_ | refine VV.shr rfl ⟨by omega, by omega⟩ ?_ | refine VV.and rfl ?_ | refine VV.div rfl ⟨by omega, by omega, by omega⟩ ?_ | refine VV.rem rfl ⟨by omega, by omega, by omega⟩ ?_ | refine VV.s rfl ?_  | refine VV.b (b_ltT (by omega) (by omega)) ?_ | refine VV.b (b_ltF (by omega) (by omega)) ?_ | refine VV.b (b_geT (by omega) (by omega)) ?_ | refine VV.b (b_geF (by omega) (by omega)) ?_ | refine VV.b (b_gtT (by omega) (by omega)) ?_ | refine VV.b (b_gtF (by omega) (by omega)) ?_ | refine VV.b (b_leT (by omega) (by omega)) ?_ | refine VV.b (b_leF (by omega) (by omega)) ?_ | refine VV.b (b_eqT (by omega) (by omega)) ?_ | refine VV.b (b_eqF (by omega) (by omega)) ?_ | refine VV.b (b_neT (by omega) (by omega)) ?_ | refine VV.b (b_neF (by omega) (by omega)) ?_)
    exact VV.r rfl (q τ A B h FK.refl)
  | true =>
    rw [hb, if_pos rfl] at q
    obtain ⟨a, b, ha, hb10, hbn, rfl, hab⟩ := spB_spec hb
    rw [cel_nI hb10 hab] at q
    show VV _ _ _ _ [.int (nI 1)] _ _
    repeat (first | refine VV.g58 rfl rfl ?_ | refine VV.pf rfl rfl ?_ | refine VV.add rfl ?_ | refine VV.inc rfl rfl rfl ?_ | refine VV.mul rfl ?_ | refine VV.sub rfl (by omega) ?_ | refine VV.shl1 rfl (by omega) ?_ | refine VV.shl rfl ⟨by omega, by omega⟩ ?_ | refine VV.shr rfl ⟨by omega, by omega⟩ ?_ | refine VV.and rfl ?_ | refine VV.div rfl ⟨by omega, by omega, by omega⟩ ?_ | refine VV.rem rfl ⟨by omega, by omega, by omega⟩ ?_ | refine VV.s rfl ?_  | refine VV.b (b_ltT (by omega) (by omega)) ?_ | refine VV.b (b_ltF (by omega) (by omega)) ?_ | refine VV.b (b_geT (by omega) (by omega)) ?_ | refine VV.b (b_geF (by omega) (by omega)) ?_ | refine VV.b (b_gtT (by omega) (by omega)) ?_ | refine VV.b (b_gtF (by omega) (by omega)) ?_ | refine VV.b (b_leT (by omega) (by omega)) ?_ | refine VV.b (b_leF (by omega) (by omega)) ?_ | refine VV.b (b_eqT (by omega) (by omega)) ?_ | refine VV.b (b_eqF (by omega) (by omega)) ?_ | refine VV.b (b_neT (by omega) (by omega)) ?_ | refine VV.b (b_neF (by omega) (by omega)) ?_)
    (refine VV.c rfl ?_; refine cm_in (lo := -(nI 99)) (hi := nI 99) rfl rfl ?_)
    cases hr : rgB (-(nI 99)) (nI 99) v with
    | false =>
      rw [hr] at q
      repeat (first | refine VV.g58 rfl rfl ?_ | refine VV.pf rfl rfl ?_ | refine VV.add rfl ?_ | refine VV.inc rfl rfl rfl ?_ | refine VV.mul rfl ?_ | refine VV.sub rfl (by omega) ?_ | refine VV.shl1 rfl (by omega) ?_ | refine VV.shl rfl ⟨by omega, by omega⟩ ?_ | refine VV.shr rfl ⟨by omega, by omega⟩ ?_ | refine VV.and rfl ?_ | refine VV.div rfl ⟨by omega, by omega, by omega⟩ ?_ | refine VV.rem rfl ⟨by omega, by omega, by omega⟩ ?_ | refine VV.s rfl ?_  | refine VV.b (b_ltT (by omega) (by omega)) ?_ | refine VV.b (b_ltF (by omega) (by omega)) ?_ | refine VV.b (b_geT (by omega) (by omega)) ?_ | refine VV.b (b_geF (by omega) (by omega)) ?_ | refine VV.b (b_gtT (by omega) (by omega)) ?_ | refine VV.b (b_gtF (by omega) (by omega)) ?_ | refine VV.b (b_leT (by omega) (by omega)) ?_ | refine VV.b (b_leF (by omega) (by omega)) ?_ | refine VV.b (b_eqT (by omega) (by omega)) ?_ | refine VV.b (b_eqF (by omega) (by omega)) ?_ | refine VV.b (b_neT (by omega) (by omega)) ?_ | refine VV.b (b_neF (by omega) (by omega)) ?_)
      exact VV.r rfl (q τ A B h FK.refl)
    | true =>
      rw [hr, if_pos rfl, ← h.E a b ha hbn, rz_t] at q
      show VV _ _ _ _ [.int (nI 1)] _ _
      repeat (first | refine VV.g58 rfl rfl ?_ | refine VV.pf rfl rfl ?_ | refine VV.add rfl ?_ | refine VV.inc rfl rfl rfl ?_ | refine VV.mul rfl ?_ | refine VV.sub rfl (by omega) ?_ | refine VV.shl1 rfl (by omega) ?_ | refine VV.shl rfl ⟨by omega, by omega⟩ ?_ | refine VV.shr rfl ⟨by omega, by omega⟩ ?_ | refine VV.and rfl ?_ | refine VV.div rfl ⟨by omega, by omega, by omega⟩ ?_ | refine VV.rem rfl ⟨by omega, by omega, by omega⟩ ?_ | refine VV.s rfl ?_  | refine VV.b (b_ltT (by omega) (by omega)) ?_ | refine VV.b (b_ltF (by omega) (by omega)) ?_ | refine VV.b (b_geT (by omega) (by omega)) ?_ | refine VV.b (b_geF (by omega) (by omega)) ?_ | refine VV.b (b_gtT (by omega) (by omega)) ?_ | refine VV.b (b_gtF (by omega) (by omega)) ?_ | refine VV.b (b_leT (by omega) (by omega)) ?_ | refine VV.b (b_leF (by omega) (by omega)) ?_ | refine VV.b (b_eqT (by omega) (by omega)) ?_ | refine VV.b (b_eqF (by omega) (by omega)) ?_ | refine VV.b (b_neT (by omega) (by omega)) ?_ | refine VV.b (b_neF (by omega) (by omega)) ?_)
      (refine VV.c rfl ?_; refine cm_cell (show a < 4 by omega) (show b < 4 by omega) ?_)
      refine VV.ia rfl rfl rfl (show 4 * a + b < 16 by omega) ?_
      repeat (first | refine VV.g58 rfl rfl ?_ | refine VV.pf rfl rfl ?_ | refine VV.add rfl ?_ | refine VV.inc rfl rfl rfl ?_ | refine VV.mul rfl ?_ | refine VV.sub rfl (by omega) ?_ | refine VV.shl1 rfl (by omega) ?_ | refine VV.shl rfl ⟨by omega, by omega⟩ ?_ | refine VV.shr rfl ⟨by omega, by omega⟩ ?_ | refine VV.and rfl ?_ | refine VV.div rfl ⟨by omega, by omega, by omega⟩ ?_ | refine VV.rem rfl ⟨by omega, by omega, by omega⟩ ?_ | refine VV.s rfl ?_  | refine VV.b (b_ltT (by omega) (by omega)) ?_ | refine VV.b (b_ltF (by omega) (by omega)) ?_ | refine VV.b (b_geT (by omega) (by omega)) ?_ | refine VV.b (b_geF (by omega) (by omega)) ?_ | refine VV.b (b_gtT (by omega) (by omega)) ?_ | refine VV.b (b_gtF (by omega) (by omega)) ?_ | refine VV.b (b_leT (by omega) (by omega)) ?_ | refine VV.b (b_leF (by omega) (by omega)) ?_ | refine VV.b (b_eqT (by omega) (by omega)) ?_ | refine VV.b (b_eqF (by omega) (by omega)) ?_ | refine VV.b (b_neT (by omega) (by omega)) ?_ | refine VV.b (b_neF (by omega) (by omega)) ?_)
      (refine VV.c rfl ?_; refine cm_cell (show a < 4 by omega) (show b < 4 by omega) ?_)
      repeat (first | refine VV.g58 rfl rfl ?_ | refine VV.pf rfl rfl ?_ | refine VV.add rfl ?_ | refine VV.inc rfl rfl rfl ?_ | refine VV.mul rfl ?_ | refine VV.sub rfl (by omega) ?_ | refine VV.shl1 rfl (by omega) ?_ | refine VV.shl rfl ⟨by omega, by omega⟩ ?_ | refine VV.shr rfl ⟨by omega, by omega⟩ ?_ | refine VV.and rfl ?_ | refine VV.div rfl ⟨by omega, by omega, by omega⟩ ?_ | refine VV.rem rfl ⟨by omega, by omega, by omega⟩ ?_ | refine VV.s rfl ?_  | refine VV.b (b_ltT (by omega) (by omega)) ?_ | refine VV.b (b_ltF (by omega) (by omega)) ?_ | refine VV.b (b_geT (by omega) (by omega)) ?_ | refine VV.b (b_geF (by omega) (by omega)) ?_ | refine VV.b (b_gtT (by omega) (by omega)) ?_ | refine VV.b (b_gtF (by omega) (by omega)) ?_ | refine VV.b (b_leT (by omega) (by omega)) ?_ | refine VV.b (b_leF (by omega) (by omega)) ?_ | refine VV.b (b_eqT (by omega) (by omega)) ?_ | refine VV.b (b_eqF (by omega) (by omega)) ?_ | refine VV.b (b_neT (by omega) (by omega)) ?_ | refine VV.b (b_neF (by omega) (by omega)) ?_)
      refine VV.is rfl rfl rfl (show 4 * a + b < 16 by omega) ?_
      repeat (first | refine VV.g58 rfl rfl ?_ | refine VV.pf rfl rfl ?_ | refine VV.add rfl ?_ | refine VV.inc rfl rfl rfl ?_ | refine VV.mul rfl ?_ | refine VV.sub rfl (by omega) ?_ | refine VV.shl1 rfl (by omega) ?_ | refine VV.shl rfl ⟨by omega, by omega⟩ ?_ | refine VV.shr rfl ⟨by omega, by omega⟩ ?_ | refine VV.and rfl ?_ | refine VV.div rfl ⟨by omega, by omega, by omega⟩ ?_ | refine VV.rem rfl ⟨by omega, by omega, by omega⟩ ?_ | refine VV.s rfl ?_  | refine VV.b (b_ltT (by omega) (by omega)) ?_ | refine VV.b (b_ltF (by omega) (by omega)) ?_ | refine VV.b (b_geT (by omega) (by omega)) ?_ | refine VV.b (b_geF (by omega) (by omega)) ?_ | refine VV.b (b_gtT (by omega) (by omega)) ?_ | refine VV.b (b_gtF (by omega) (by omega)) ?_ | refine VV.b (b_leT (by omega) (by omega)) ?_ | refine VV.b (b_leF (by omega) (by omega)) ?_ | refine VV.b (b_eqT (by omega) (by omega)) ?_ | refine VV.b (b_eqF (by omega) (by omega)) ?_ | refine VV.b (b_neT (by omega) (by omega)) ?_ | refine VV.b (b_neF (by omega) (by omega)) ?_)
      refine VV.r rfl (q _ _ _ (RM.mk h.n (fun k l hk hl => ?_) h.V h.cm h.ck (rfl) (fun k hk => absurd hk (Nat.not_lt_zero k)) h.sm h.se h.em h.ev h.bm h.bk h.tm h.tx h.ts h.tl h.ti h.im0 h.im1) (FK.ut (by decide) (FK.ua (by decide) FK.refl)))
      show (up (A 59) (4 * a + b) v (4 * k + l)).toInt64 = up s.c.E (4 * a + b) v.toInt64 (4 * k + l)
      by_cases e : 4 * k + l = 4 * a + b
      · rw [e, up_s, up_s]
      · rw [up_n e, up_n e]
        exact h.E k l hk hl
theorem l_flip (i : IV s) : KL (d + 3) M_M_flip [.ref 58] s (oFlip s) := by
  intro S τ A B Q h q
  have h4 := i.c.n4
  have hn := h.n
  have P2 : ∀ G, (∀ i j, i < s.c.n → j < s.c.n → G (4 * i + j) = A 59 (4 * (s.c.n - 1 - i) + (s.c.n - 1 - j))) → ∀ x2, VV (d + 3) M_M_flip 68 [some (.ref 58), some (.int (nI 0)), x2] [] (HH S τ (up A 61 G) B) Q := by
    intro G hG x2
    have V := VV.inv (fun k E => FJ (fun i j => G (4 * i + j)) s.c.n k 0 E) (fun k E => ∀ x2, VV (d + 3) M_M_flip 68 [some (.ref 58), some (.int (nI k)), x2] [] (HH S τ (up (up A 61 G) 59 E) B) Q) s.c.n ?_ ?_ s.c.n 0 (A 59) (by omega) (fun i j _ _ z => absurd z (by omega)) x2
    · rw [show up (up A 61 G) 59 (A 59) = up A 61 G from (by rw [show A 59 = up A 61 G 59 from rfl, up_id])] at V
      exact V
    · intro k E hk hI nxt x2
      have W := VV.inv (fun l E => FJ (fun i j => G (4 * i + j)) s.c.n k l E) (fun l E => VV (d + 3) M_M_flip 78 [some (.ref 58), some (.int (nI k)), some (.int (nI l))] [] (HH S τ (up (up A 61 G) 59 E) B) Q) s.c.n ?_ ?_ s.c.n 0 E (by omega) hI
      · repeat (first | exact W | refine VV.g58n rfl rfl hn ?_ | refine VV.g58 rfl rfl ?_ | refine VV.pf rfl rfl ?_ | refine VV.add rfl ?_ | refine VV.inc rfl rfl rfl ?_ | refine VV.mul rfl ?_ | refine VV.sub rfl (by omega) ?_ | refine VV.shl1 rfl (by omega) ?_ | refine VV.shl rfl ⟨by omega, by omega⟩ ?_ | refine VV.shr rfl ⟨by omega, by omega⟩ ?_ | refine VV.and rfl ?_ | refine VV.div rfl ⟨by omega, by omega, by omega⟩ ?_ | refine VV.rem rfl ⟨by omega, by omega, by omega⟩ ?_ | refine VV.s rfl ?_  | refine VV.b (b_ltT (by omega) (by omega)) ?_ | refine VV.b (b_ltF (by omega) (by omega)) ?_ | refine VV.b (b_geT (by omega) (by omega)) ?_ | refine VV.b (b_geF (by omega) (by omega)) ?_ | refine VV.b (b_gtT (by omega) (by omega)) ?_ | refine VV.b (b_gtF (by omega) (by omega)) ?_ | refine VV.b (b_leT (by omega) (by omega)) ?_ | refine VV.b (b_leF (by omega) (by omega)) ?_ | refine VV.b (b_eqT (by omega) (by omega)) ?_ | refine VV.b (b_eqF (by omega) (by omega)) ?_ | refine VV.b (b_neT (by omega) (by omega)) ?_ | refine VV.b (b_neF (by omega) (by omega)) ?_)
      · intro l E hl hI nx2
        have := nx2 _ (hI.step h4 hl)
        repeat (first | refine VV.g58n rfl rfl hn ?_ | refine VV.g58 rfl rfl ?_ | refine VV.pf rfl rfl ?_ | refine VV.add rfl ?_ | refine VV.inc rfl rfl rfl ?_ | refine VV.mul rfl ?_ | refine VV.sub rfl (by omega) ?_ | refine VV.shl1 rfl (by omega) ?_ | refine VV.shl rfl ⟨by omega, by omega⟩ ?_ | refine VV.shr rfl ⟨by omega, by omega⟩ ?_ | refine VV.and rfl ?_ | refine VV.div rfl ⟨by omega, by omega, by omega⟩ ?_ | refine VV.rem rfl ⟨by omega, by omega, by omega⟩ ?_ | refine VV.s rfl ?_  | refine VV.b (b_ltT (by omega) (by omega)) ?_ | refine VV.b (b_ltF (by omega) (by omega)) ?_ | refine VV.b (b_geT (by omega) (by omega)) ?_ | refine VV.b (b_geF (by omega) (by omega)) ?_ | refine VV.b (b_gtT (by omega) (by omega)) ?_ | refine VV.b (b_gtF (by omega) (by omega)) ?_ | refine VV.b (b_leT (by omega) (by omega)) ?_ | refine VV.b (b_leF (by omega) (by omega)) ?_ | refine VV.b (b_eqT (by omega) (by omega)) ?_ | refine VV.b (b_eqF (by omega) (by omega)) ?_ | refine VV.b (b_neT (by omega) (by omega)) ?_ | refine VV.b (b_neF (by omega) (by omega)) ?_)
        refine VV.ia rfl rfl rfl (show 4 * k + l < 16 by omega) ?_
        refine VV.is rfl rfl rfl (show 4 * k + l < 16 by omega) ?_
        rw [up_up, up_s]
        repeat (first | exact this | refine VV.g58n rfl rfl hn ?_ | refine VV.g58 rfl rfl ?_ | refine VV.pf rfl rfl ?_ | refine VV.add rfl ?_ | refine VV.inc rfl rfl rfl ?_ | refine VV.mul rfl ?_ | refine VV.sub rfl (by omega) ?_ | refine VV.shl1 rfl (by omega) ?_ | refine VV.shl rfl ⟨by omega, by omega⟩ ?_ | refine VV.shr rfl ⟨by omega, by omega⟩ ?_ | refine VV.and rfl ?_ | refine VV.div rfl ⟨by omega, by omega, by omega⟩ ?_ | refine VV.rem rfl ⟨by omega, by omega, by omega⟩ ?_ | refine VV.s rfl ?_  | refine VV.b (b_ltT (by omega) (by omega)) ?_ | refine VV.b (b_ltF (by omega) (by omega)) ?_ | refine VV.b (b_geT (by omega) (by omega)) ?_ | refine VV.b (b_geF (by omega) (by omega)) ?_ | refine VV.b (b_gtT (by omega) (by omega)) ?_ | refine VV.b (b_gtF (by omega) (by omega)) ?_ | refine VV.b (b_leT (by omega) (by omega)) ?_ | refine VV.b (b_leF (by omega) (by omega)) ?_ | refine VV.b (b_eqT (by omega) (by omega)) ?_ | refine VV.b (b_eqF (by omega) (by omega)) ?_ | refine VV.b (b_neT (by omega) (by omega)) ?_ | refine VV.b (b_neF (by omega) (by omega)) ?_)
      · intro E hI
        have := nxt E hI.row (some (.int (nI s.c.n)))
        repeat (first | exact this | refine VV.g58n rfl rfl hn ?_ | refine VV.g58 rfl rfl ?_ | refine VV.pf rfl rfl ?_ | refine VV.add rfl ?_ | refine VV.inc rfl rfl rfl ?_ | refine VV.mul rfl ?_ | refine VV.sub rfl (by omega) ?_ | refine VV.shl1 rfl (by omega) ?_ | refine VV.shl rfl ⟨by omega, by omega⟩ ?_ | refine VV.shr rfl ⟨by omega, by omega⟩ ?_ | refine VV.and rfl ?_ | refine VV.div rfl ⟨by omega, by omega, by omega⟩ ?_ | refine VV.rem rfl ⟨by omega, by omega, by omega⟩ ?_ | refine VV.s rfl ?_  | refine VV.b (b_ltT (by omega) (by omega)) ?_ | refine VV.b (b_ltF (by omega) (by omega)) ?_ | refine VV.b (b_geT (by omega) (by omega)) ?_ | refine VV.b (b_geF (by omega) (by omega)) ?_ | refine VV.b (b_gtT (by omega) (by omega)) ?_ | refine VV.b (b_gtF (by omega) (by omega)) ?_ | refine VV.b (b_leT (by omega) (by omega)) ?_ | refine VV.b (b_leF (by omega) (by omega)) ?_ | refine VV.b (b_eqT (by omega) (by omega)) ?_ | refine VV.b (b_eqF (by omega) (by omega)) ?_ | refine VV.b (b_neT (by omega) (by omega)) ?_ | refine VV.b (b_neF (by omega) (by omega)) ?_)
    · intro E hI x2
      repeat (first | refine VV.g58n rfl rfl hn ?_ | refine VV.g58 rfl rfl ?_ | refine VV.pf rfl rfl ?_ | refine VV.add rfl ?_ | refine VV.inc rfl rfl rfl ?_ | refine VV.mul rfl ?_ | refine VV.sub rfl (by omega) ?_ | refine VV.shl1 rfl (by omega) ?_ | refine VV.shl rfl ⟨by omega, by omega⟩ ?_ | refine VV.shr rfl ⟨by omega, by omega⟩ ?_ | refine VV.and rfl ?_ | refine VV.div rfl ⟨by omega, by omega, by omega⟩ ?_ | refine VV.rem rfl ⟨by omega, by omega, by omega⟩ ?_ | refine VV.s rfl ?_  | refine VV.b (b_ltT (by omega) (by omega)) ?_ | refine VV.b (b_ltF (by omega) (by omega)) ?_ | refine VV.b (b_geT (by omega) (by omega)) ?_ | refine VV.b (b_geF (by omega) (by omega)) ?_ | refine VV.b (b_gtT (by omega) (by omega)) ?_ | refine VV.b (b_gtF (by omega) (by omega)) ?_ | refine VV.b (b_leT (by omega) (by omega)) ?_ | refine VV.b (b_leF (by omega) (by omega)) ?_ | refine VV.b (b_eqT (by omega) (by omega)) ?_ | refine VV.b (b_eqF (by omega) (by omega)) ?_ | refine VV.b (b_neT (by omega) (by omega)) ?_ | refine VV.b (b_neF (by omega) (by omega)) ?_)
      repeat (first | refine VV.g58 rfl rfl ?_ | refine VV.pf rfl rfl ?_ | refine VV.add rfl ?_ | refine VV.inc rfl rfl rfl ?_ | refine VV.mul rfl ?_ | refine VV.sub rfl (by omega) ?_ | refine VV.shl1 rfl (by omega) ?_ | refine VV.shl rfl ⟨by omega, by omega⟩ ?_ | refine VV.shr rfl ⟨by omega, by omega⟩ ?_ | refine VV.and rfl ?_ | refine VV.div rfl ⟨by omega, by omega, by omega⟩ ?_ | refine VV.rem rfl ⟨by omega, by omega, by omega⟩ ?_ | refine VV.s rfl ?_  | refine VV.b (b_ltT (by omega) (by omega)) ?_ | refine VV.b (b_ltF (by omega) (by omega)) ?_ | refine VV.b (b_geT (by omega) (by omega)) ?_ | refine VV.b (b_geF (by omega) (by omega)) ?_ | refine VV.b (b_gtT (by omega) (by omega)) ?_ | refine VV.b (b_gtF (by omega) (by omega)) ?_ | refine VV.b (b_leT (by omega) (by omega)) ?_ | refine VV.b (b_leF (by omega) (by omega)) ?_ | refine VV.b (b_eqT (by omega) (by omega)) ?_ | refine VV.b (b_eqF (by omega) (by omega)) ?_ | refine VV.b (b_neT (by omega) (by omega)) ?_ | refine VV.b (b_neF (by omega) (by omega)) ?_)
      refine VV.r rfl (q _ _ _ (RM.mk h.n (fun k l hk hl => ?_) h.V h.cm h.ck (rfl) (fun k hk => absurd hk (Nat.not_lt_zero k)) h.sm h.se h.em h.ev h.bm h.bk h.tm h.tx h.ts h.tl h.ti h.im0 h.im1) (FK.ut (by decide) (FK.ua (by decide) (FK.ua (by decide) FK.refl))))
      have hl4 : l < 4 := Nat.lt_of_lt_of_le hl h4
      have hk2 : k < s.c.n := hk
      have hl2 : l < s.c.n := hl
      show (E (4 * k + l)).toInt64 = s.c.E (4 * (s.c.n - 1 - (4 * k + l) / 4) + (s.c.n - 1 - (4 * k + l) % 4))
      rw [show E (4 * k + l) = G (4 * k + l) from hI k l hk hl (Or.inl hk), hG k l hk hl, show (4 * k + l) % 4 = l by omega, show (4 * k + l) / 4 = k by omega]
      exact h.E _ _ (by omega) (by omega)
  refine CC.of rfl ?_
  have V := VV.inv (fun k E => FJ (fun i j => A 59 (4 * (s.c.n - 1 - i) + (s.c.n - 1 - j))) s.c.n k 0 E) (fun k E => ∀ x2, VV (d + 3) M_M_flip 2 [some (.ref 58), some (.int (nI k)), x2] [] (HH S τ (up A 61 E) B) Q) s.c.n ?_ ?_ s.c.n 0 (A 61) (by omega) (fun i j _ _ z => absurd z (by omega)) none
  · rw [up_id] at V
    repeat (first | exact V | refine VV.g58n rfl rfl hn ?_ | refine VV.g58 rfl rfl ?_ | refine VV.pf rfl rfl ?_ | refine VV.add rfl ?_ | refine VV.inc rfl rfl rfl ?_ | refine VV.mul rfl ?_ | refine VV.sub rfl (by omega) ?_ | refine VV.shl1 rfl (by omega) ?_ | refine VV.shl rfl ⟨by omega, by omega⟩ ?_ | refine VV.shr rfl ⟨by omega, by omega⟩ ?_ | refine VV.and rfl ?_ | refine VV.div rfl ⟨by omega, by omega, by omega⟩ ?_ | refine VV.rem rfl ⟨by omega, by omega, by omega⟩ ?_ | refine VV.s rfl ?_  | refine VV.b (b_ltT (by omega) (by omega)) ?_ | refine VV.b (b_ltF (by omega) (by omega)) ?_ | refine VV.b (b_geT (by omega) (by omega)) ?_ | refine VV.b (b_geF (by omega) (by omega)) ?_ | refine VV.b (b_gtT (by omega) (by omega)) ?_ | refine VV.b (b_gtF (by omega) (by omega)) ?_ | refine VV.b (b_leT (by omega) (by omega)) ?_ | refine VV.b (b_leF (by omega) (by omega)) ?_ | refine VV.b (b_eqT (by omega) (by omega)) ?_ | refine VV.b (b_eqF (by omega) (by omega)) ?_ | refine VV.b (b_neT (by omega) (by omega)) ?_ | refine VV.b (b_neF (by omega) (by omega)) ?_)
  · intro k E hk hI nxt x2
    have W := VV.inv (fun l E => FJ (fun i j => A 59 (4 * (s.c.n - 1 - i) + (s.c.n - 1 - j))) s.c.n k l E) (fun l E => VV (d + 3) M_M_flip 12 [some (.ref 58), some (.int (nI k)), some (.int (nI l))] [] (HH S τ (up A 61 E) B) Q) s.c.n ?_ ?_ s.c.n 0 E (by omega) hI
    · repeat (first | exact W | refine VV.g58n rfl rfl hn ?_ | refine VV.g58 rfl rfl ?_ | refine VV.pf rfl rfl ?_ | refine VV.add rfl ?_ | refine VV.inc rfl rfl rfl ?_ | refine VV.mul rfl ?_ | refine VV.sub rfl (by omega) ?_ | refine VV.shl1 rfl (by omega) ?_ | refine VV.shl rfl ⟨by omega, by omega⟩ ?_ | refine VV.shr rfl ⟨by omega, by omega⟩ ?_ | refine VV.and rfl ?_ | refine VV.div rfl ⟨by omega, by omega, by omega⟩ ?_ | refine VV.rem rfl ⟨by omega, by omega, by omega⟩ ?_ | refine VV.s rfl ?_  | refine VV.b (b_ltT (by omega) (by omega)) ?_ | refine VV.b (b_ltF (by omega) (by omega)) ?_ | refine VV.b (b_geT (by omega) (by omega)) ?_ | refine VV.b (b_geF (by omega) (by omega)) ?_ | refine VV.b (b_gtT (by omega) (by omega)) ?_ | refine VV.b (b_gtF (by omega) (by omega)) ?_ | refine VV.b (b_leT (by omega) (by omega)) ?_ | refine VV.b (b_leF (by omega) (by omega)) ?_ | refine VV.b (b_eqT (by omega) (by omega)) ?_ | refine VV.b (b_eqF (by omega) (by omega)) ?_ | refine VV.b (b_neT (by omega) (by omega)) ?_ | refine VV.b (b_neF (by omega) (by omega)) ?_)
    · intro l E hl hI nx2
      have := nx2 _ (hI.step h4 hl)
      repeat (first | refine VV.g58n rfl rfl hn ?_ | refine VV.g58 rfl rfl ?_ | refine VV.pf rfl rfl ?_ | refine VV.add rfl ?_ | refine VV.inc rfl rfl rfl ?_ | refine VV.mul rfl ?_ | refine VV.sub rfl (by omega) ?_ | refine VV.shl1 rfl (by omega) ?_ | refine VV.shl rfl ⟨by omega, by omega⟩ ?_ | refine VV.shr rfl ⟨by omega, by omega⟩ ?_ | refine VV.and rfl ?_ | refine VV.div rfl ⟨by omega, by omega, by omega⟩ ?_ | refine VV.rem rfl ⟨by omega, by omega, by omega⟩ ?_ | refine VV.s rfl ?_  | refine VV.b (b_ltT (by omega) (by omega)) ?_ | refine VV.b (b_ltF (by omega) (by omega)) ?_ | refine VV.b (b_geT (by omega) (by omega)) ?_ | refine VV.b (b_geF (by omega) (by omega)) ?_ | refine VV.b (b_gtT (by omega) (by omega)) ?_ | refine VV.b (b_gtF (by omega) (by omega)) ?_ | refine VV.b (b_leT (by omega) (by omega)) ?_ | refine VV.b (b_leF (by omega) (by omega)) ?_ | refine VV.b (b_eqT (by omega) (by omega)) ?_ | refine VV.b (b_eqF (by omega) (by omega)) ?_ | refine VV.b (b_neT (by omega) (by omega)) ?_ | refine VV.b (b_neF (by omega) (by omega)) ?_)
      refine VV.ia rfl rfl (show _ = nI (4 * (s.c.n - 1 - k) + (s.c.n - 1 - l)) by congr 1; omega) (show 4 * (s.c.n - 1 - k) + (s.c.n - 1 - l) < 16 by omega) ?_
      refine VV.is rfl rfl rfl (show 4 * k + l < 16 by omega) ?_
      rw [up_up, up_s]
      repeat (first | exact this | refine VV.g58n rfl rfl hn ?_ | refine VV.g58 rfl rfl ?_ | refine VV.pf rfl rfl ?_ | refine VV.add rfl ?_ | refine VV.inc rfl rfl rfl ?_ | refine VV.mul rfl ?_ | refine VV.sub rfl (by omega) ?_ | refine VV.shl1 rfl (by omega) ?_ | refine VV.shl rfl ⟨by omega, by omega⟩ ?_ | refine VV.shr rfl ⟨by omega, by omega⟩ ?_ | refine VV.and rfl ?_ | refine VV.div rfl ⟨by omega, by omega, by omega⟩ ?_ | refine VV.rem rfl ⟨by omega, by omega, by omega⟩ ?_ | refine VV.s rfl ?_  | refine VV.b (b_ltT (by omega) (by omega)) ?_ | refine VV.b (b_ltF (by omega) (by omega)) ?_ | refine VV.b (b_geT (by omega) (by omega)) ?_ | refine VV.b (b_geF (by omega) (by omega)) ?_ | refine VV.b (b_gtT (by omega) (by omega)) ?_ | refine VV.b (b_gtF (by omega) (by omega)) ?_ | refine VV.b (b_leT (by omega) (by omega)) ?_ | refine VV.b (b_leF (by omega) (by omega)) ?_ | refine VV.b (b_eqT (by omega) (by omega)) ?_ | refine VV.b (b_eqF (by omega) (by omega)) ?_ | refine VV.b (b_neT (by omega) (by omega)) ?_ | refine VV.b (b_neF (by omega) (by omega)) ?_)
    · intro E hI
      have := nxt E hI.row (some (.int (nI s.c.n)))
      repeat (first | exact this | refine VV.g58n rfl rfl hn ?_ | refine VV.g58 rfl rfl ?_ | refine VV.pf rfl rfl ?_ | refine VV.add rfl ?_ | refine VV.inc rfl rfl rfl ?_ | refine VV.mul rfl ?_ | refine VV.sub rfl (by omega) ?_ | refine VV.shl1 rfl (by omega) ?_ | refine VV.shl rfl ⟨by omega, by omega⟩ ?_ | refine VV.shr rfl ⟨by omega, by omega⟩ ?_ | refine VV.and rfl ?_ | refine VV.div rfl ⟨by omega, by omega, by omega⟩ ?_ | refine VV.rem rfl ⟨by omega, by omega, by omega⟩ ?_ | refine VV.s rfl ?_  | refine VV.b (b_ltT (by omega) (by omega)) ?_ | refine VV.b (b_ltF (by omega) (by omega)) ?_ | refine VV.b (b_geT (by omega) (by omega)) ?_ | refine VV.b (b_geF (by omega) (by omega)) ?_ | refine VV.b (b_gtT (by omega) (by omega)) ?_ | refine VV.b (b_gtF (by omega) (by omega)) ?_ | refine VV.b (b_leT (by omega) (by omega)) ?_ | refine VV.b (b_leF (by omega) (by omega)) ?_ | refine VV.b (b_eqT (by omega) (by omega)) ?_ | refine VV.b (b_eqF (by omega) (by omega)) ?_ | refine VV.b (b_neT (by omega) (by omega)) ?_ | refine VV.b (b_neF (by omega) (by omega)) ?_)
  · intro E hI x2
    have := P2 E (fun i j hi hj => hI i j hi hj (Or.inl hi)) x2
    repeat (first | exact this | refine VV.g58n rfl rfl hn ?_ | refine VV.g58 rfl rfl ?_ | refine VV.pf rfl rfl ?_ | refine VV.add rfl ?_ | refine VV.inc rfl rfl rfl ?_ | refine VV.mul rfl ?_ | refine VV.sub rfl (by omega) ?_ | refine VV.shl1 rfl (by omega) ?_ | refine VV.shl rfl ⟨by omega, by omega⟩ ?_ | refine VV.shr rfl ⟨by omega, by omega⟩ ?_ | refine VV.and rfl ?_ | refine VV.div rfl ⟨by omega, by omega, by omega⟩ ?_ | refine VV.rem rfl ⟨by omega, by omega, by omega⟩ ?_ | refine VV.s rfl ?_  | refine VV.b (b_ltT (by omega) (by omega)) ?_ | refine VV.b (b_ltF (by omega) (by omega)) ?_ | refine VV.b (b_geT (by omega) (by omega)) ?_ | refine VV.b (b_geF (by omega) (by omega)) ?_ | refine VV.b (b_gtT (by omega) (by omega)) ?_ | refine VV.b (b_gtF (by omega) (by omega)) ?_ | refine VV.b (b_leT (by omega) (by omega)) ?_ | refine VV.b (b_leF (by omega) (by omega)) ?_ | refine VV.b (b_eqT (by omega) (by omega)) ?_ | refine VV.b (b_eqF (by omega) (by omega)) ?_ | refine VV.b (b_neT (by omega) (by omega)) ?_ | refine VV.b (b_neF (by omega) (by omega)) ?_)
theorem l_clear (i : IV s) : KL (d + 1) M_M_clear [.ref 58] s (oClear s) := by
  intro S τ A B Q h q
  refine CC.of rfl ?_
  repeat (first | refine VV.g58n rfl rfl h.cm ?_ | refine VV.g58 rfl rfl ?_ | refine VV.pf rfl rfl ?_ | refine VV.add rfl ?_ | refine VV.inc rfl rfl rfl ?_ | refine VV.mul rfl ?_ | refine VV.sub rfl (by omega) ?_ | refine VV.shl1 rfl (by omega) ?_ | refine VV.shl rfl ⟨by omega, by omega⟩ ?_ | refine VV.shr rfl ⟨by omega, by omega⟩ ?_ | refine VV.and rfl ?_ | refine VV.div rfl ⟨by omega, by omega, by omega⟩ ?_ | refine VV.rem rfl ⟨by omega, by omega, by omega⟩ ?_ | refine VV.s rfl ?_  | refine VV.b (b_ltT (by omega) (by omega)) ?_ | refine VV.b (b_ltF (by omega) (by omega)) ?_ | refine VV.b (b_geT (by omega) (by omega)) ?_ | refine VV.b (b_geF (by omega) (by omega)) ?_ | refine VV.b (b_gtT (by omega) (by omega)) ?_ | refine VV.b (b_gtF (by omega) (by omega)) ?_ | refine VV.b (b_leT (by omega) (by omega)) ?_ | refine VV.b (b_leF (by omega) (by omega)) ?_ | refine VV.b (b_eqT (by omega) (by omega)) ?_ | refine VV.b (b_eqF (by omega) (by omega)) ?_ | refine VV.b (b_neT (by omega) (by omega)) ?_ | refine VV.b (b_neF (by omega) (by omega)) ?_)
  repeat (first | refine VV.g58 rfl rfl ?_ | refine VV.pf rfl rfl ?_ | refine VV.add rfl ?_ | refine VV.inc rfl rfl rfl ?_ | refine VV.mul rfl ?_ | refine VV.sub rfl (by omega) ?_ | refine VV.shl1 rfl (by omega) ?_ | refine VV.shl rfl ⟨by omega, by omega⟩ ?_ | refine VV.shr rfl ⟨by omega, by omega⟩ ?_ | refine VV.and rfl ?_ | refine VV.div rfl ⟨by omega, by omega, by omega⟩ ?_ | refine VV.rem rfl ⟨by omega, by omega, by omega⟩ ?_ | refine VV.s rfl ?_  | refine VV.b (b_ltT (by omega) (by omega)) ?_ | refine VV.b (b_ltF (by omega) (by omega)) ?_ | refine VV.b (b_geT (by omega) (by omega)) ?_ | refine VV.b (b_geF (by omega) (by omega)) ?_ | refine VV.b (b_gtT (by omega) (by omega)) ?_ | refine VV.b (b_gtF (by omega) (by omega)) ?_ | refine VV.b (b_leT (by omega) (by omega)) ?_ | refine VV.b (b_leF (by omega) (by omega)) ?_ | refine VV.b (b_eqT (by omega) (by omega)) ?_ | refine VV.b (b_eqF (by omega) (by omega)) ?_ | refine VV.b (b_neT (by omega) (by omega)) ?_ | refine VV.b (b_neF (by omega) (by omega)) ?_)
  exact VV.r rfl (q _ _ _ (RM.mk h.n h.E h.V (rfl) (fun k hk => absurd hk (Nat.not_lt_zero k)) h.nm h.nt h.sm h.se h.em h.ev h.bm h.bk h.tm h.tx h.ts h.tl h.ti h.im0 h.im1) (FK.ut (by decide) FK.refl))
theorem l_vector (i : IV s) {x v : Int32} : KL (d + 3) M_M_vector [.ref 58, .int x, .int v] s (oVector s x v) := by
  intro S τ A B Q h q
  unfold oVector at q
  have hn := h.n
  have h4 := i.c.n4
  have h2 := i.c.n2
  refine CC.of rfl ?_
  repeat (first | refine VV.g58n rfl rfl hn ?_ | refine VV.g58 rfl rfl ?_ | refine VV.pf rfl rfl ?_ | refine VV.add rfl ?_ | refine VV.inc rfl rfl rfl ?_ | refine VV.mul rfl ?_ | refine VV.sub rfl (by omega) ?_ | refine VV.shl1 rfl (by omega) ?_ | refine VV.shl rfl ⟨by omega, by omega⟩ ?_ | refine VV.shr rfl ⟨by omega, by omega⟩ ?_ | refine VV.and rfl ?_ | refine VV.div rfl ⟨by omega, by omega, by omega⟩ ?_ | refine VV.rem rfl ⟨by omega, by omega, by omega⟩ ?_ | refine VV.s rfl ?_  | refine VV.b (b_ltT (by omega) (by omega)) ?_ | refine VV.b (b_ltF (by omega) (by omega)) ?_ | refine VV.b (b_geT (by omega) (by omega)) ?_ | refine VV.b (b_geF (by omega) (by omega)) ?_ | refine VV.b (b_gtT (by omega) (by omega)) ?_ | refine VV.b (b_gtF (by omega) (by omega)) ?_ | refine VV.b (b_leT (by omega) (by omega)) ?_ | refine VV.b (b_leF (by omega) (by omega)) ?_ | refine VV.b (b_eqT (by omega) (by omega)) ?_ | refine VV.b (b_eqF (by omega) (by omega)) ?_ | refine VV.b (b_neT (by omega) (by omega)) ?_ | refine VV.b (b_neF (by omega) (by omega)) ?_)
  (refine VV.c rfl ?_; refine cm_in (lo := nI 0) (hi := nI (s.c.n - 1)) rfl rfl ?_)
  rw [rgB_lt (by omega) (by omega)]
  cases hb : ltB s.c.n x with
  | false =>
    rw [hb] at q
    repeat (first | refine VV.g58 rfl rfl ?_ | refine VV.pf rfl rfl ?_ | refine VV.add rfl ?_ | refine VV.inc rfl rfl rfl ?_ | refine VV.mul rfl ?_ | refine VV.sub rfl (by omega) ?_ | refine VV.shl1 rfl (by omega) ?_ | refine VV.shl rfl ⟨by omega, by omega⟩ ?_ | refine VV.shr rfl ⟨by omega, by omega⟩ ?_ | refine VV.and rfl ?_ | refine VV.div rfl ⟨by omega, by omega, by omega⟩ ?_ | refine VV.rem rfl ⟨by omega, by omega, by omega⟩ ?_ | refine VV.s rfl ?_  | refine VV.b (b_ltT (by omega) (by omega)) ?_ | refine VV.b (b_ltF (by omega) (by omega)) ?_ | refine VV.b (b_geT (by omega) (by omega)) ?_ | refine VV.b (b_geF (by omega) (by omega)) ?_ | refine VV.b (b_gtT (by omega) (by omega)) ?_ | refine VV.b (b_gtF (by omega) (by omega)) ?_ | refine VV.b (b_leT (by omega) (by omega)) ?_ | refine VV.b (b_leF (by omega) (by omega)) ?_ | refine VV.b (b_eqT (by omega) (by omega)) ?_ | refine VV.b (b_eqF (by omega) (by omega)) ?_ | refine VV.b (b_neT (by omega) (by omega)) ?_ | refine VV.b (b_neF (by omega) (by omega)) ?_)
    exact VV.r rfl (q τ A B h FK.refl)
  | true =>
    rw [hb, if_pos rfl] at q
    obtain ⟨k, hk, rfl⟩ := ltB_spec hb
    rw [nI_clamp (by omega)] at q
    show VV _ _ _ _ [.int (nI 1)] _ _
    repeat (first | refine VV.g58 rfl rfl ?_ | refine VV.pf rfl rfl ?_ | refine VV.add rfl ?_ | refine VV.inc rfl rfl rfl ?_ | refine VV.mul rfl ?_ | refine VV.sub rfl (by omega) ?_ | refine VV.shl1 rfl (by omega) ?_ | refine VV.shl rfl ⟨by omega, by omega⟩ ?_ | refine VV.shr rfl ⟨by omega, by omega⟩ ?_ | refine VV.and rfl ?_ | refine VV.div rfl ⟨by omega, by omega, by omega⟩ ?_ | refine VV.rem rfl ⟨by omega, by omega, by omega⟩ ?_ | refine VV.s rfl ?_  | refine VV.b (b_ltT (by omega) (by omega)) ?_ | refine VV.b (b_ltF (by omega) (by omega)) ?_ | refine VV.b (b_geT (by omega) (by omega)) ?_ | refine VV.b (b_geF (by omega) (by omega)) ?_ | refine VV.b (b_gtT (by omega) (by omega)) ?_ | refine VV.b (b_gtF (by omega) (by omega)) ?_ | refine VV.b (b_leT (by omega) (by omega)) ?_ | refine VV.b (b_leF (by omega) (by omega)) ?_ | refine VV.b (b_eqT (by omega) (by omega)) ?_ | refine VV.b (b_eqF (by omega) (by omega)) ?_ | refine VV.b (b_neT (by omega) (by omega)) ?_ | refine VV.b (b_neF (by omega) (by omega)) ?_)
    (refine VV.c rfl ?_; refine cm_in (lo := -(nI 9)) (hi := nI 9) rfl rfl ?_)
    cases hr : rgB (-(nI 9)) (nI 9) v with
    | false =>
      rw [hr] at q
      repeat (first | refine VV.g58 rfl rfl ?_ | refine VV.pf rfl rfl ?_ | refine VV.add rfl ?_ | refine VV.inc rfl rfl rfl ?_ | refine VV.mul rfl ?_ | refine VV.sub rfl (by omega) ?_ | refine VV.shl1 rfl (by omega) ?_ | refine VV.shl rfl ⟨by omega, by omega⟩ ?_ | refine VV.shr rfl ⟨by omega, by omega⟩ ?_ | refine VV.and rfl ?_ | refine VV.div rfl ⟨by omega, by omega, by omega⟩ ?_ | refine VV.rem rfl ⟨by omega, by omega, by omega⟩ ?_ | refine VV.s rfl ?_  | refine VV.b (b_ltT (by omega) (by omega)) ?_ | refine VV.b (b_ltF (by omega) (by omega)) ?_ | refine VV.b (b_geT (by omega) (by omega)) ?_ | refine VV.b (b_geF (by omega) (by omega)) ?_ | refine VV.b (b_gtT (by omega) (by omega)) ?_ | refine VV.b (b_gtF (by omega) (by omega)) ?_ | refine VV.b (b_leT (by omega) (by omega)) ?_ | refine VV.b (b_leF (by omega) (by omega)) ?_ | refine VV.b (b_eqT (by omega) (by omega)) ?_ | refine VV.b (b_eqF (by omega) (by omega)) ?_ | refine VV.b (b_neT (by omega) (by omega)) ?_ | refine VV.b (b_neF (by omega) (by omega)) ?_)
      exact VV.r rfl (q τ A B h FK.refl)
    | true =>
      rw [hr, if_pos rfl, ← h.V k (by omega), rz_t] at q
      show VV _ _ _ _ [.int (nI 1)] _ _
      repeat (first | refine VV.g58 rfl rfl ?_ | refine VV.pf rfl rfl ?_ | refine VV.add rfl ?_ | refine VV.inc rfl rfl rfl ?_ | refine VV.mul rfl ?_ | refine VV.sub rfl (by omega) ?_ | refine VV.shl1 rfl (by omega) ?_ | refine VV.shl rfl ⟨by omega, by omega⟩ ?_ | refine VV.shr rfl ⟨by omega, by omega⟩ ?_ | refine VV.and rfl ?_ | refine VV.div rfl ⟨by omega, by omega, by omega⟩ ?_ | refine VV.rem rfl ⟨by omega, by omega, by omega⟩ ?_ | refine VV.s rfl ?_  | refine VV.b (b_ltT (by omega) (by omega)) ?_ | refine VV.b (b_ltF (by omega) (by omega)) ?_ | refine VV.b (b_geT (by omega) (by omega)) ?_ | refine VV.b (b_geF (by omega) (by omega)) ?_ | refine VV.b (b_gtT (by omega) (by omega)) ?_ | refine VV.b (b_gtF (by omega) (by omega)) ?_ | refine VV.b (b_leT (by omega) (by omega)) ?_ | refine VV.b (b_leF (by omega) (by omega)) ?_ | refine VV.b (b_eqT (by omega) (by omega)) ?_ | refine VV.b (b_eqF (by omega) (by omega)) ?_ | refine VV.b (b_neT (by omega) (by omega)) ?_ | refine VV.b (b_neF (by omega) (by omega)) ?_)
      refine VV.ia rfl rfl rfl (show k < 4 by omega) ?_
      repeat (first | refine VV.g58 rfl rfl ?_ | refine VV.pf rfl rfl ?_ | refine VV.add rfl ?_ | refine VV.inc rfl rfl rfl ?_ | refine VV.mul rfl ?_ | refine VV.sub rfl (by omega) ?_ | refine VV.shl1 rfl (by omega) ?_ | refine VV.shl rfl ⟨by omega, by omega⟩ ?_ | refine VV.shr rfl ⟨by omega, by omega⟩ ?_ | refine VV.and rfl ?_ | refine VV.div rfl ⟨by omega, by omega, by omega⟩ ?_ | refine VV.rem rfl ⟨by omega, by omega, by omega⟩ ?_ | refine VV.s rfl ?_  | refine VV.b (b_ltT (by omega) (by omega)) ?_ | refine VV.b (b_ltF (by omega) (by omega)) ?_ | refine VV.b (b_geT (by omega) (by omega)) ?_ | refine VV.b (b_geF (by omega) (by omega)) ?_ | refine VV.b (b_gtT (by omega) (by omega)) ?_ | refine VV.b (b_gtF (by omega) (by omega)) ?_ | refine VV.b (b_leT (by omega) (by omega)) ?_ | refine VV.b (b_leF (by omega) (by omega)) ?_ | refine VV.b (b_eqT (by omega) (by omega)) ?_ | refine VV.b (b_eqF (by omega) (by omega)) ?_ | refine VV.b (b_neT (by omega) (by omega)) ?_ | refine VV.b (b_neF (by omega) (by omega)) ?_)
      refine VV.is rfl rfl rfl (show k < 4 by omega) ?_
      repeat (first | refine VV.g58 rfl rfl ?_ | refine VV.pf rfl rfl ?_ | refine VV.add rfl ?_ | refine VV.inc rfl rfl rfl ?_ | refine VV.mul rfl ?_ | refine VV.sub rfl (by omega) ?_ | refine VV.shl1 rfl (by omega) ?_ | refine VV.shl rfl ⟨by omega, by omega⟩ ?_ | refine VV.shr rfl ⟨by omega, by omega⟩ ?_ | refine VV.and rfl ?_ | refine VV.div rfl ⟨by omega, by omega, by omega⟩ ?_ | refine VV.rem rfl ⟨by omega, by omega, by omega⟩ ?_ | refine VV.s rfl ?_  | refine VV.b (b_ltT (by omega) (by omega)) ?_ | refine VV.b (b_ltF (by omega) (by omega)) ?_ | refine VV.b (b_geT (by omega) (by omega)) ?_ | refine VV.b (b_geF (by omega) (by omega)) ?_ | refine VV.b (b_gtT (by omega) (by omega)) ?_ | refine VV.b (b_gtF (by omega) (by omega)) ?_ | refine VV.b (b_leT (by omega) (by omega)) ?_ | refine VV.b (b_leF (by omega) (by omega)) ?_ | refine VV.b (b_eqT (by omega) (by omega)) ?_ | refine VV.b (b_eqF (by omega) (by omega)) ?_ | refine VV.b (b_neT (by omega) (by omega)) ?_ | refine VV.b (b_neF (by omega) (by omega)) ?_)
      refine VV.r rfl (q _ _ _ (RM.mk h.n h.E (fun l hl => ?_) h.cm h.ck h.nm h.nt h.sm h.se h.em h.ev h.bm h.bk h.tm h.tx h.ts h.tl h.ti h.im0 h.im1) (FK.ua (by decide) FK.refl))
      show (up (A 60) k v l).toInt64 = up s.c.V k v.toInt64 l
      by_cases e : l = k
      · rw [e, up_s, up_s]
      · rw [up_n e, up_n e]
        exact h.V l hl
theorem l_chip (i : IV s) {a x v : Int32} : KL (d + 3) M_M_chip [.ref 58, .int a, .int x, .int v] s (oChip s a x v) := by
  intro S τ A B Q h q
  unfold oChip at q
  have hn := h.n
  have hm := h.cm
  have h4 := i.c.n4
  have h2 := i.c.n2
  have hcm := i.c.cm
  have bad : chB s.c.n a x = false → VV (d + 3) M_M_chip 43 [some (.ref 58), some (.int a), some (.int x), some (.int v)] [] (HH S τ A B) Q := by
    intro e
    rw [e] at q
    repeat refine VV.s rfl ?_
    exact VV.r rfl (q τ A B h FK.refl)
  have good : chB s.c.n a x = true → VV (d + 3) M_M_chip 45 [some (.ref 58), some (.int a), some (.int x), some (.int v)] [] (HH S τ A B) Q := by
    intro e
    rw [e, if_pos rfl] at q
    repeat (first | refine VV.add rfl ?_ | refine VV.inc rfl rfl rfl ?_ | refine VV.mul rfl ?_ | refine VV.sub rfl (by omega) ?_ | refine VV.shl1 rfl (by omega) ?_ | refine VV.shl rfl ⟨by omega, by omega⟩ ?_ | refine VV.shr rfl ⟨by omega, by omega⟩ ?_ | refine VV.and rfl ?_ | refine VV.div rfl ⟨by omega, by omega, by omega⟩ ?_ | refine VV.rem rfl ⟨by omega, by omega, by omega⟩ ?_ | refine VV.s rfl ?_  | refine VV.b (b_ltT (by omega) (by omega)) ?_ | refine VV.b (b_ltF (by omega) (by omega)) ?_ | refine VV.b (b_geT (by omega) (by omega)) ?_ | refine VV.b (b_geF (by omega) (by omega)) ?_ | refine VV.b (b_gtT (by omega) (by omega)) ?_ | refine VV.b (b_gtF (by omega) (by omega)) ?_ | refine VV.b (b_leT (by omega) (by omega)) ?_ | refine VV.b (b_leF (by omega) (by omega)) ?_ | refine VV.b (b_eqT (by omega) (by omega)) ?_ | refine VV.b (b_eqF (by omega) (by omega)) ?_ | refine VV.b (b_neT (by omega) (by omega)) ?_ | refine VV.b (b_neF (by omega) (by omega)) ?_)
    (refine VV.c rfl ?_; refine cm_in (lo := nI 1) (hi := nI 9) rfl rfl ?_)
    cases hr : rgB (nI 1) (nI 9) v with
    | false =>
      rw [hr] at q
      repeat (first | refine VV.add rfl ?_ | refine VV.inc rfl rfl rfl ?_ | refine VV.mul rfl ?_ | refine VV.sub rfl (by omega) ?_ | refine VV.shl1 rfl (by omega) ?_ | refine VV.shl rfl ⟨by omega, by omega⟩ ?_ | refine VV.shr rfl ⟨by omega, by omega⟩ ?_ | refine VV.and rfl ?_ | refine VV.div rfl ⟨by omega, by omega, by omega⟩ ?_ | refine VV.rem rfl ⟨by omega, by omega, by omega⟩ ?_ | refine VV.s rfl ?_  | refine VV.b (b_ltT (by omega) (by omega)) ?_ | refine VV.b (b_ltF (by omega) (by omega)) ?_ | refine VV.b (b_geT (by omega) (by omega)) ?_ | refine VV.b (b_geF (by omega) (by omega)) ?_ | refine VV.b (b_gtT (by omega) (by omega)) ?_ | refine VV.b (b_gtF (by omega) (by omega)) ?_ | refine VV.b (b_leT (by omega) (by omega)) ?_ | refine VV.b (b_leF (by omega) (by omega)) ?_ | refine VV.b (b_eqT (by omega) (by omega)) ?_ | refine VV.b (b_eqF (by omega) (by omega)) ?_ | refine VV.b (b_neT (by omega) (by omega)) ?_ | refine VV.b (b_neF (by omega) (by omega)) ?_)
      exact VV.r rfl (q τ A B h FK.refl)
    | true =>
      rw [hr, if_pos rfl] at q
      unfold oAdd at q
      show VV _ _ _ _ [.int (nI 1)] _ _
      by_cases cf : s.c.m 1 = 12
      · rw [if_pos cf] at q
        rw [cf] at hm
        repeat (first | refine VV.g58n rfl rfl hm ?_ | refine VV.g58 rfl rfl ?_ | refine VV.pf rfl rfl ?_ | refine VV.add rfl ?_ | refine VV.inc rfl rfl rfl ?_ | refine VV.mul rfl ?_ | refine VV.sub rfl (by omega) ?_ | refine VV.shl1 rfl (by omega) ?_ | refine VV.shl rfl ⟨by omega, by omega⟩ ?_ | refine VV.shr rfl ⟨by omega, by omega⟩ ?_ | refine VV.and rfl ?_ | refine VV.div rfl ⟨by omega, by omega, by omega⟩ ?_ | refine VV.rem rfl ⟨by omega, by omega, by omega⟩ ?_ | refine VV.s rfl ?_  | refine VV.b (b_ltT (by omega) (by omega)) ?_ | refine VV.b (b_ltF (by omega) (by omega)) ?_ | refine VV.b (b_geT (by omega) (by omega)) ?_ | refine VV.b (b_geF (by omega) (by omega)) ?_ | refine VV.b (b_gtT (by omega) (by omega)) ?_ | refine VV.b (b_gtF (by omega) (by omega)) ?_ | refine VV.b (b_leT (by omega) (by omega)) ?_ | refine VV.b (b_leF (by omega) (by omega)) ?_ | refine VV.b (b_eqT (by omega) (by omega)) ?_ | refine VV.b (b_eqF (by omega) (by omega)) ?_ | refine VV.b (b_neT (by omega) (by omega)) ?_ | refine VV.b (b_neF (by omega) (by omega)) ?_)
        exact VV.r rfl (q τ A B h FK.refl)
      · rw [if_neg cf] at q
        repeat (first | refine VV.g58n rfl rfl hm ?_ | refine VV.g58 rfl rfl ?_ | refine VV.pf rfl rfl ?_ | refine VV.add rfl ?_ | refine VV.inc rfl rfl rfl ?_ | refine VV.mul rfl ?_ | refine VV.sub rfl (by omega) ?_ | refine VV.shl1 rfl (by omega) ?_ | refine VV.shl rfl ⟨by omega, by omega⟩ ?_ | refine VV.shr rfl ⟨by omega, by omega⟩ ?_ | refine VV.and rfl ?_ | refine VV.div rfl ⟨by omega, by omega, by omega⟩ ?_ | refine VV.rem rfl ⟨by omega, by omega, by omega⟩ ?_ | refine VV.s rfl ?_  | refine VV.b (b_ltT (by omega) (by omega)) ?_ | refine VV.b (b_ltF (by omega) (by omega)) ?_ | refine VV.b (b_geT (by omega) (by omega)) ?_ | refine VV.b (b_geF (by omega) (by omega)) ?_ | refine VV.b (b_gtT (by omega) (by omega)) ?_ | refine VV.b (b_gtF (by omega) (by omega)) ?_ | refine VV.b (b_leT (by omega) (by omega)) ?_ | refine VV.b (b_leF (by omega) (by omega)) ?_ | refine VV.b (b_eqT (by omega) (by omega)) ?_ | refine VV.b (b_eqF (by omega) (by omega)) ?_ | refine VV.b (b_neT (by omega) (by omega)) ?_ | refine VV.b (b_neF (by omega) (by omega)) ?_)
        refine VV.is rfl rfl rfl (show s.c.m 1 < 12 by omega) ?_
        repeat (first | refine VV.g58n rfl rfl hm ?_ | refine VV.g58 rfl rfl ?_ | refine VV.pf rfl rfl ?_ | refine VV.add rfl ?_ | refine VV.inc rfl rfl rfl ?_ | refine VV.mul rfl ?_ | refine VV.sub rfl (by omega) ?_ | refine VV.shl1 rfl (by omega) ?_ | refine VV.shl rfl ⟨by omega, by omega⟩ ?_ | refine VV.shr rfl ⟨by omega, by omega⟩ ?_ | refine VV.and rfl ?_ | refine VV.div rfl ⟨by omega, by omega, by omega⟩ ?_ | refine VV.rem rfl ⟨by omega, by omega, by omega⟩ ?_ | refine VV.s rfl ?_  | refine VV.b (b_ltT (by omega) (by omega)) ?_ | refine VV.b (b_ltF (by omega) (by omega)) ?_ | refine VV.b (b_geT (by omega) (by omega)) ?_ | refine VV.b (b_geF (by omega) (by omega)) ?_ | refine VV.b (b_gtT (by omega) (by omega)) ?_ | refine VV.b (b_gtF (by omega) (by omega)) ?_ | refine VV.b (b_leT (by omega) (by omega)) ?_ | refine VV.b (b_leF (by omega) (by omega)) ?_ | refine VV.b (b_eqT (by omega) (by omega)) ?_ | refine VV.b (b_eqF (by omega) (by omega)) ?_ | refine VV.b (b_neT (by omega) (by omega)) ?_ | refine VV.b (b_neF (by omega) (by omega)) ?_)
        refine VV.is rfl rfl rfl (show s.c.m 1 < 12 by omega) ?_
        repeat (first | refine VV.g58n rfl rfl hm ?_ | refine VV.g58 rfl rfl ?_ | refine VV.pf rfl rfl ?_ | refine VV.add rfl ?_ | refine VV.inc rfl rfl rfl ?_ | refine VV.mul rfl ?_ | refine VV.sub rfl (by omega) ?_ | refine VV.shl1 rfl (by omega) ?_ | refine VV.shl rfl ⟨by omega, by omega⟩ ?_ | refine VV.shr rfl ⟨by omega, by omega⟩ ?_ | refine VV.and rfl ?_ | refine VV.div rfl ⟨by omega, by omega, by omega⟩ ?_ | refine VV.rem rfl ⟨by omega, by omega, by omega⟩ ?_ | refine VV.s rfl ?_  | refine VV.b (b_ltT (by omega) (by omega)) ?_ | refine VV.b (b_ltF (by omega) (by omega)) ?_ | refine VV.b (b_geT (by omega) (by omega)) ?_ | refine VV.b (b_geF (by omega) (by omega)) ?_ | refine VV.b (b_gtT (by omega) (by omega)) ?_ | refine VV.b (b_gtF (by omega) (by omega)) ?_ | refine VV.b (b_leT (by omega) (by omega)) ?_ | refine VV.b (b_leF (by omega) (by omega)) ?_ | refine VV.b (b_eqT (by omega) (by omega)) ?_ | refine VV.b (b_eqF (by omega) (by omega)) ?_ | refine VV.b (b_neT (by omega) (by omega)) ?_ | refine VV.b (b_neF (by omega) (by omega)) ?_)
        refine VV.is rfl rfl rfl (show s.c.m 1 < 12 by omega) ?_
        repeat (first | refine VV.g58n rfl rfl hm ?_ | refine VV.g58 rfl rfl ?_ | refine VV.pf rfl rfl ?_ | refine VV.add rfl ?_ | refine VV.inc rfl rfl rfl ?_ | refine VV.mul rfl ?_ | refine VV.sub rfl (by omega) ?_ | refine VV.shl1 rfl (by omega) ?_ | refine VV.shl rfl ⟨by omega, by omega⟩ ?_ | refine VV.shr rfl ⟨by omega, by omega⟩ ?_ | refine VV.and rfl ?_ | refine VV.div rfl ⟨by omega, by omega, by omega⟩ ?_ | refine VV.rem rfl ⟨by omega, by omega, by omega⟩ ?_ | refine VV.s rfl ?_  | refine VV.b (b_ltT (by omega) (by omega)) ?_ | refine VV.b (b_ltF (by omega) (by omega)) ?_ | refine VV.b (b_geT (by omega) (by omega)) ?_ | refine VV.b (b_geF (by omega) (by omega)) ?_ | refine VV.b (b_gtT (by omega) (by omega)) ?_ | refine VV.b (b_gtF (by omega) (by omega)) ?_ | refine VV.b (b_leT (by omega) (by omega)) ?_ | refine VV.b (b_leF (by omega) (by omega)) ?_ | refine VV.b (b_eqT (by omega) (by omega)) ?_ | refine VV.b (b_eqF (by omega) (by omega)) ?_ | refine VV.b (b_neT (by omega) (by omega)) ?_ | refine VV.b (b_neF (by omega) (by omega)) ?_)
        refine VV.r rfl (q _ _ _ (RM.mk h.n h.E h.V (rfl) (fun k hk => ?_) h.nm h.nt h.sm h.se h.em h.ev h.bm h.bk h.tm h.tx h.ts h.tl h.ti h.im0 h.im1) (FK.ut (by decide) (FK.ua (by decide) (FK.ua (by decide) (FK.ua (by decide) FK.refl)))))
        have hk2 : k < s.c.m 1 + 1 := hk
        show up (A 65) (s.c.m 1) a k = rAdd (s.c.r 1) (s.c.m 1) a x v k 0 ∧ up (A 66) (s.c.m 1) x k = rAdd (s.c.r 1) (s.c.m 1) a x v k 1 ∧ up (A 67) (s.c.m 1) v k = rAdd (s.c.r 1) (s.c.m 1) a x v k 2
        by_cases e : k = s.c.m 1
        · rw [e, up_s, up_s, up_s, rAdd_0, rAdd_1, rAdd_2]
          exact ⟨rfl, rfl, rfl⟩
        · rw [up_n e, up_n e, up_n e, rAdd_n e]
          exact h.ck k (by omega)
  refine CC.of rfl ?_
  repeat (first | refine VV.add rfl ?_ | refine VV.inc rfl rfl rfl ?_ | refine VV.mul rfl ?_ | refine VV.sub rfl (by omega) ?_ | refine VV.shl1 rfl (by omega) ?_ | refine VV.shl rfl ⟨by omega, by omega⟩ ?_ | refine VV.shr rfl ⟨by omega, by omega⟩ ?_ | refine VV.and rfl ?_ | refine VV.div rfl ⟨by omega, by omega, by omega⟩ ?_ | refine VV.rem rfl ⟨by omega, by omega, by omega⟩ ?_ | refine VV.s rfl ?_  | refine VV.b (b_ltT (by omega) (by omega)) ?_ | refine VV.b (b_ltF (by omega) (by omega)) ?_ | refine VV.b (b_geT (by omega) (by omega)) ?_ | refine VV.b (b_geF (by omega) (by omega)) ?_ | refine VV.b (b_gtT (by omega) (by omega)) ?_ | refine VV.b (b_gtF (by omega) (by omega)) ?_ | refine VV.b (b_leT (by omega) (by omega)) ?_ | refine VV.b (b_leF (by omega) (by omega)) ?_ | refine VV.b (b_eqT (by omega) (by omega)) ?_ | refine VV.b (b_eqF (by omega) (by omega)) ?_ | refine VV.b (b_neT (by omega) (by omega)) ?_ | refine VV.b (b_neF (by omega) (by omega)) ?_)
  (refine VV.c rfl ?_; refine cm_in (lo := nI 0) (hi := nI 2) rfl rfl ?_)
  rcases rgB_cases (a := 0) (b := 2) (by omega) (by omega) a with ⟨e, k, _, k2, rfl⟩ | ⟨e, hx⟩
  · rw [e]
    show VV _ _ _ _ [.int (nI 1)] _ _
    have two : ∀ b, chB s.c.n (nI k) x = b → VV (d + 3) M_M_chip 40 [some (.ref 58), some (.int (nI k)), some (.int x), some (.int v)] [.int (bI b)] (HH S τ A B) Q := by
      intro b eb
      cases b with
      | false => have := bad eb; repeat (first | exact this | refine VV.add rfl ?_ | refine VV.inc rfl rfl rfl ?_ | refine VV.mul rfl ?_ | refine VV.sub rfl (by omega) ?_ | refine VV.shl1 rfl (by omega) ?_ | refine VV.shl rfl ⟨by omega, by omega⟩ ?_ | refine VV.shr rfl ⟨by omega, by omega⟩ ?_ | refine VV.and rfl ?_ | refine VV.div rfl ⟨by omega, by omega, by omega⟩ ?_ | refine VV.rem rfl ⟨by omega, by omega, by omega⟩ ?_ | refine VV.s rfl ?_  | refine VV.b (b_ltT (by omega) (by omega)) ?_ | refine VV.b (b_ltF (by omega) (by omega)) ?_ | refine VV.b (b_geT (by omega) (by omega)) ?_ | refine VV.b (b_geF (by omega) (by omega)) ?_ | refine VV.b (b_gtT (by omega) (by omega)) ?_ | refine VV.b (b_gtF (by omega) (by omega)) ?_ | refine VV.b (b_leT (by omega) (by omega)) ?_ | refine VV.b (b_leF (by omega) (by omega)) ?_ | refine VV.b (b_eqT (by omega) (by omega)) ?_ | refine VV.b (b_eqF (by omega) (by omega)) ?_ | refine VV.b (b_neT (by omega) (by omega)) ?_ | refine VV.b (b_neF (by omega) (by omega)) ?_)
      | true => have := good eb; repeat (first | exact this | refine VV.add rfl ?_ | refine VV.inc rfl rfl rfl ?_ | refine VV.mul rfl ?_ | refine VV.sub rfl (by omega) ?_ | refine VV.shl1 rfl (by omega) ?_ | refine VV.shl rfl ⟨by omega, by omega⟩ ?_ | refine VV.shr rfl ⟨by omega, by omega⟩ ?_ | refine VV.and rfl ?_ | refine VV.div rfl ⟨by omega, by omega, by omega⟩ ?_ | refine VV.rem rfl ⟨by omega, by omega, by omega⟩ ?_ | refine VV.s rfl ?_  | refine VV.b (b_ltT (by omega) (by omega)) ?_ | refine VV.b (b_ltF (by omega) (by omega)) ?_ | refine VV.b (b_geT (by omega) (by omega)) ?_ | refine VV.b (b_geF (by omega) (by omega)) ?_ | refine VV.b (b_gtT (by omega) (by omega)) ?_ | refine VV.b (b_gtF (by omega) (by omega)) ?_ | refine VV.b (b_leT (by omega) (by omega)) ?_ | refine VV.b (b_leF (by omega) (by omega)) ?_ | refine VV.b (b_eqT (by omega) (by omega)) ?_ | refine VV.b (b_eqF (by omega) (by omega)) ?_ | refine VV.b (b_neT (by omega) (by omega)) ?_ | refine VV.b (b_neF (by omega) (by omega)) ?_)
    rcases (show k = 0 ∨ k = 1 ∨ k = 2 by omega) with rfl | rfl | rfl
    · repeat (first | refine VV.g58n rfl rfl hn ?_ | refine VV.g58 rfl rfl ?_ | refine VV.pf rfl rfl ?_ | refine VV.add rfl ?_ | refine VV.inc rfl rfl rfl ?_ | refine VV.mul rfl ?_ | refine VV.sub rfl (by omega) ?_ | refine VV.shl1 rfl (by omega) ?_ | refine VV.shl rfl ⟨by omega, by omega⟩ ?_ | refine VV.shr rfl ⟨by omega, by omega⟩ ?_ | refine VV.and rfl ?_ | refine VV.div rfl ⟨by omega, by omega, by omega⟩ ?_ | refine VV.rem rfl ⟨by omega, by omega, by omega⟩ ?_ | refine VV.s rfl ?_  | refine VV.b (b_ltT (by omega) (by omega)) ?_ | refine VV.b (b_ltF (by omega) (by omega)) ?_ | refine VV.b (b_geT (by omega) (by omega)) ?_ | refine VV.b (b_geF (by omega) (by omega)) ?_ | refine VV.b (b_gtT (by omega) (by omega)) ?_ | refine VV.b (b_gtF (by omega) (by omega)) ?_ | refine VV.b (b_leT (by omega) (by omega)) ?_ | refine VV.b (b_leF (by omega) (by omega)) ?_ | refine VV.b (b_eqT (by omega) (by omega)) ?_ | refine VV.b (b_eqF (by omega) (by omega)) ?_ | refine VV.b (b_neT (by omega) (by omega)) ?_ | refine VV.b (b_neF (by omega) (by omega)) ?_)
      (refine VV.c rfl ?_; refine cm_in (lo := nI 0) (hi := nI (s.c.n - 2)) rfl rfl ?_)
      rw [show s.c.n - 2 = s.c.n - 1 - 1 by omega, rgB_lt (by omega) (by omega)]
      exact two _ chB_0
    · repeat (first | refine VV.g58n rfl rfl hn ?_ | refine VV.g58 rfl rfl ?_ | refine VV.pf rfl rfl ?_ | refine VV.add rfl ?_ | refine VV.inc rfl rfl rfl ?_ | refine VV.mul rfl ?_ | refine VV.sub rfl (by omega) ?_ | refine VV.shl1 rfl (by omega) ?_ | refine VV.shl rfl ⟨by omega, by omega⟩ ?_ | refine VV.shr rfl ⟨by omega, by omega⟩ ?_ | refine VV.and rfl ?_ | refine VV.div rfl ⟨by omega, by omega, by omega⟩ ?_ | refine VV.rem rfl ⟨by omega, by omega, by omega⟩ ?_ | refine VV.s rfl ?_  | refine VV.b (b_ltT (by omega) (by omega)) ?_ | refine VV.b (b_ltF (by omega) (by omega)) ?_ | refine VV.b (b_geT (by omega) (by omega)) ?_ | refine VV.b (b_geF (by omega) (by omega)) ?_ | refine VV.b (b_gtT (by omega) (by omega)) ?_ | refine VV.b (b_gtF (by omega) (by omega)) ?_ | refine VV.b (b_leT (by omega) (by omega)) ?_ | refine VV.b (b_leF (by omega) (by omega)) ?_ | refine VV.b (b_eqT (by omega) (by omega)) ?_ | refine VV.b (b_eqF (by omega) (by omega)) ?_ | refine VV.b (b_neT (by omega) (by omega)) ?_ | refine VV.b (b_neF (by omega) (by omega)) ?_)
      (refine VV.c rfl ?_; refine cm_in (lo := nI 0) (hi := nI (s.c.n - 2)) rfl rfl ?_)
      rw [show s.c.n - 2 = s.c.n - 1 - 1 by omega, rgB_lt (by omega) (by omega)]
      exact two _ chB_1
    · repeat (first | refine VV.g58n rfl rfl hn ?_ | refine VV.g58 rfl rfl ?_ | refine VV.pf rfl rfl ?_ | refine VV.add rfl ?_ | refine VV.inc rfl rfl rfl ?_ | refine VV.mul rfl ?_ | refine VV.sub rfl (by omega) ?_ | refine VV.shl1 rfl (by omega) ?_ | refine VV.shl rfl ⟨by omega, by omega⟩ ?_ | refine VV.shr rfl ⟨by omega, by omega⟩ ?_ | refine VV.and rfl ?_ | refine VV.div rfl ⟨by omega, by omega, by omega⟩ ?_ | refine VV.rem rfl ⟨by omega, by omega, by omega⟩ ?_ | refine VV.s rfl ?_  | refine VV.b (b_ltT (by omega) (by omega)) ?_ | refine VV.b (b_ltF (by omega) (by omega)) ?_ | refine VV.b (b_geT (by omega) (by omega)) ?_ | refine VV.b (b_geF (by omega) (by omega)) ?_ | refine VV.b (b_gtT (by omega) (by omega)) ?_ | refine VV.b (b_gtF (by omega) (by omega)) ?_ | refine VV.b (b_leT (by omega) (by omega)) ?_ | refine VV.b (b_leF (by omega) (by omega)) ?_ | refine VV.b (b_eqT (by omega) (by omega)) ?_ | refine VV.b (b_eqF (by omega) (by omega)) ?_ | refine VV.b (b_neT (by omega) (by omega)) ?_ | refine VV.b (b_neF (by omega) (by omega)) ?_)
      (refine VV.c rfl ?_; refine cm_in (lo := nI 0) (hi := nI (s.c.n - 1)) rfl rfl ?_)
      rw [rgB_lt (by omega) (by omega)]
      exact two _ chB_2
  · rw [e]
    have := bad (chB_n (hx 0 (by omega) (by omega)) (hx 1 (by omega) (by omega)) (hx 2 (by omega) (by omega)))
    repeat (first | exact this | refine VV.add rfl ?_ | refine VV.inc rfl rfl rfl ?_ | refine VV.mul rfl ?_ | refine VV.sub rfl (by omega) ?_ | refine VV.shl1 rfl (by omega) ?_ | refine VV.shl rfl ⟨by omega, by omega⟩ ?_ | refine VV.shr rfl ⟨by omega, by omega⟩ ?_ | refine VV.and rfl ?_ | refine VV.div rfl ⟨by omega, by omega, by omega⟩ ?_ | refine VV.rem rfl ⟨by omega, by omega, by omega⟩ ?_ | refine VV.s rfl ?_  | refine VV.b (b_ltT (by omega) (by omega)) ?_ | refine VV.b (b_ltF (by omega) (by omega)) ?_ | refine VV.b (b_geT (by omega) (by omega)) ?_ | refine VV.b (b_geF (by omega) (by omega)) ?_ | refine VV.b (b_gtT (by omega) (by omega)) ?_ | refine VV.b (b_gtF (by omega) (by omega)) ?_ | refine VV.b (b_leT (by omega) (by omega)) ?_ | refine VV.b (b_leF (by omega) (by omega)) ?_ | refine VV.b (b_eqT (by omega) (by omega)) ?_ | refine VV.b (b_eqF (by omega) (by omega)) ?_ | refine VV.b (b_neT (by omega) (by omega)) ?_ | refine VV.b (b_neF (by omega) (by omega)) ?_)
theorem l_take (i : IV s) : KL (d + 5) M_M_take [.ref 58] s (oTake s) := by
  intro S τ A B Q h q
  unfold oTake at q
  have hn := h.n
  have h4 := i.c.n4
  have P2 : tkB (prodE s.c) s.c.n = true → ∀ W V x2, VV (d + 5) M_M_take 52 [some (.ref 58), some (.int (nI s.c.n)), x2] [] (HH S τ A (up (up B 68 W) 69 V)) Q := by
    intro yes W V x2
    rw [yes, if_pos rfl] at q
    have hle := tkB_t.mp yes
    have O := VV.inv (fun k (p : (Nat → Int32) × (Nat → Int64) × (Nat → Int64)) => FJ (fun a b => (prodE s.c (4 * a + b)).toInt32) s.c.n k 0 p.1) (fun k p => ∀ x2, VV (d + 5) M_M_take 54 [some (.ref 58), some (.int (nI k)), x2] [] (HH S τ (up A 59 p.1) (up (up B 68 p.2.1) 69 p.2.2)) Q) s.c.n ?_ ?_ s.c.n 0 (A 59, W, V) (by omega) (fun a b _ _ z => absurd z (by omega)) x2
    · rw [show up A 59 (A 59, W, V).1 = A from up_id A 59] at O
      repeat (first | exact O | refine VV.add rfl ?_ | refine VV.inc rfl rfl rfl ?_ | refine VV.mul rfl ?_ | refine VV.sub rfl (by omega) ?_ | refine VV.shl1 rfl (by omega) ?_ | refine VV.shl rfl ⟨by omega, by omega⟩ ?_ | refine VV.shr rfl ⟨by omega, by omega⟩ ?_ | refine VV.and rfl ?_ | refine VV.div rfl ⟨by omega, by omega, by omega⟩ ?_ | refine VV.rem rfl ⟨by omega, by omega, by omega⟩ ?_ | refine VV.s rfl ?_  | refine VV.b (b_ltT (by omega) (by omega)) ?_ | refine VV.b (b_ltF (by omega) (by omega)) ?_ | refine VV.b (b_geT (by omega) (by omega)) ?_ | refine VV.b (b_geF (by omega) (by omega)) ?_ | refine VV.b (b_gtT (by omega) (by omega)) ?_ | refine VV.b (b_gtF (by omega) (by omega)) ?_ | refine VV.b (b_leT (by omega) (by omega)) ?_ | refine VV.b (b_leF (by omega) (by omega)) ?_ | refine VV.b (b_eqT (by omega) (by omega)) ?_ | refine VV.b (b_eqF (by omega) (by omega)) ?_ | refine VV.b (b_neT (by omega) (by omega)) ?_ | refine VV.b (b_neF (by omega) (by omega)) ?_)
    · intro k p hk hI nxt x2
      have I := VV.inv (fun l (p : (Nat → Int32) × (Nat → Int64) × (Nat → Int64)) => FJ (fun a b => (prodE s.c (4 * a + b)).toInt32) s.c.n k l p.1) (fun l p => VV (d + 5) M_M_take 64 [some (.ref 58), some (.int (nI k)), some (.int (nI l))] [] (HH S τ (up A 59 p.1) (up (up B 68 p.2.1) 69 p.2.2)) Q) s.c.n ?_ ?_ s.c.n 0 p (by omega) hI
      · repeat (first | exact I | refine VV.g58n rfl rfl hn ?_ | refine VV.g58 rfl rfl ?_ | refine VV.pf rfl rfl ?_ | refine VV.add rfl ?_ | refine VV.inc rfl rfl rfl ?_ | refine VV.mul rfl ?_ | refine VV.sub rfl (by omega) ?_ | refine VV.shl1 rfl (by omega) ?_ | refine VV.shl rfl ⟨by omega, by omega⟩ ?_ | refine VV.shr rfl ⟨by omega, by omega⟩ ?_ | refine VV.and rfl ?_ | refine VV.div rfl ⟨by omega, by omega, by omega⟩ ?_ | refine VV.rem rfl ⟨by omega, by omega, by omega⟩ ?_ | refine VV.s rfl ?_  | refine VV.b (b_ltT (by omega) (by omega)) ?_ | refine VV.b (b_ltF (by omega) (by omega)) ?_ | refine VV.b (b_geT (by omega) (by omega)) ?_ | refine VV.b (b_geF (by omega) (by omega)) ?_ | refine VV.b (b_gtT (by omega) (by omega)) ?_ | refine VV.b (b_gtF (by omega) (by omega)) ?_ | refine VV.b (b_leT (by omega) (by omega)) ?_ | refine VV.b (b_leF (by omega) (by omega)) ?_ | refine VV.b (b_eqT (by omega) (by omega)) ?_ | refine VV.b (b_eqF (by omega) (by omega)) ?_ | refine VV.b (b_neT (by omega) (by omega)) ?_ | refine VV.b (b_neF (by omega) (by omega)) ?_)
      · intro l p hl hI nx2
        repeat (first | refine VV.g58n rfl rfl hn ?_ | refine VV.g58 rfl rfl ?_ | refine VV.pf rfl rfl ?_ | refine VV.add rfl ?_ | refine VV.inc rfl rfl rfl ?_ | refine VV.mul rfl ?_ | refine VV.sub rfl (by omega) ?_ | refine VV.shl1 rfl (by omega) ?_ | refine VV.shl rfl ⟨by omega, by omega⟩ ?_ | refine VV.shr rfl ⟨by omega, by omega⟩ ?_ | refine VV.and rfl ?_ | refine VV.div rfl ⟨by omega, by omega, by omega⟩ ?_ | refine VV.rem rfl ⟨by omega, by omega, by omega⟩ ?_ | refine VV.s rfl ?_  | refine VV.b (b_ltT (by omega) (by omega)) ?_ | refine VV.b (b_ltF (by omega) (by omega)) ?_ | refine VV.b (b_geT (by omega) (by omega)) ?_ | refine VV.b (b_geF (by omega) (by omega)) ?_ | refine VV.b (b_gtT (by omega) (by omega)) ?_ | refine VV.b (b_gtF (by omega) (by omega)) ?_ | refine VV.b (b_leT (by omega) (by omega)) ?_ | refine VV.b (b_leF (by omega) (by omega)) ?_ | refine VV.b (b_eqT (by omega) (by omega)) ?_ | refine VV.b (b_eqF (by omega) (by omega)) ?_ | refine VV.b (b_neT (by omega) (by omega)) ?_ | refine VV.b (b_neF (by omega) (by omega)) ?_)
        (refine VV.c rfl ?_; refine cm_waysTo (s := s) i.c (show τ 5808 = nI (s.c.m 1) from h.cm) (show ∀ k, k < (s.c.m 1) → up A 59 p.1 65 k = (s.c.r 1) k 0 ∧ up A 59 p.1 66 k = (s.c.r 1) k 1 ∧ up A 59 p.1 67 k = (s.c.r 1) k 2 from h.ck) (pop_1 (show k < 4 by omega)).2 (pop_1 (show l < 4 by omega)).2 (fun W V => ?_))
        rw [ways_E i.c hk hl]
        have := nx2 (up p.1 (4 * k + l) (prodE s.c (4 * k + l)).toInt32, W, V) (hI.step h4 hl)
        repeat refine VV.s rfl ?_
        refine VV.is rfl rfl rfl (show 4 * k + l < 16 by omega) ?_
        rw [up_up, up_s, up_comm _ _ _ (show (69 : Nat) ≠ 68 by decide), up_up, up_up]
        repeat (first | exact this | refine VV.add rfl ?_ | refine VV.inc rfl rfl rfl ?_ | refine VV.mul rfl ?_ | refine VV.sub rfl (by omega) ?_ | refine VV.shl1 rfl (by omega) ?_ | refine VV.shl rfl ⟨by omega, by omega⟩ ?_ | refine VV.shr rfl ⟨by omega, by omega⟩ ?_ | refine VV.and rfl ?_ | refine VV.div rfl ⟨by omega, by omega, by omega⟩ ?_ | refine VV.rem rfl ⟨by omega, by omega, by omega⟩ ?_ | refine VV.s rfl ?_  | refine VV.b (b_ltT (by omega) (by omega)) ?_ | refine VV.b (b_ltF (by omega) (by omega)) ?_ | refine VV.b (b_geT (by omega) (by omega)) ?_ | refine VV.b (b_geF (by omega) (by omega)) ?_ | refine VV.b (b_gtT (by omega) (by omega)) ?_ | refine VV.b (b_gtF (by omega) (by omega)) ?_ | refine VV.b (b_leT (by omega) (by omega)) ?_ | refine VV.b (b_leF (by omega) (by omega)) ?_ | refine VV.b (b_eqT (by omega) (by omega)) ?_ | refine VV.b (b_eqF (by omega) (by omega)) ?_ | refine VV.b (b_neT (by omega) (by omega)) ?_ | refine VV.b (b_neF (by omega) (by omega)) ?_)
      · intro p hI
        have := nxt p hI.row (some (.int (nI s.c.n)))
        repeat (first | exact this | refine VV.g58n rfl rfl hn ?_ | refine VV.g58 rfl rfl ?_ | refine VV.pf rfl rfl ?_ | refine VV.add rfl ?_ | refine VV.inc rfl rfl rfl ?_ | refine VV.mul rfl ?_ | refine VV.sub rfl (by omega) ?_ | refine VV.shl1 rfl (by omega) ?_ | refine VV.shl rfl ⟨by omega, by omega⟩ ?_ | refine VV.shr rfl ⟨by omega, by omega⟩ ?_ | refine VV.and rfl ?_ | refine VV.div rfl ⟨by omega, by omega, by omega⟩ ?_ | refine VV.rem rfl ⟨by omega, by omega, by omega⟩ ?_ | refine VV.s rfl ?_  | refine VV.b (b_ltT (by omega) (by omega)) ?_ | refine VV.b (b_ltF (by omega) (by omega)) ?_ | refine VV.b (b_geT (by omega) (by omega)) ?_ | refine VV.b (b_geF (by omega) (by omega)) ?_ | refine VV.b (b_gtT (by omega) (by omega)) ?_ | refine VV.b (b_gtF (by omega) (by omega)) ?_ | refine VV.b (b_leT (by omega) (by omega)) ?_ | refine VV.b (b_leF (by omega) (by omega)) ?_ | refine VV.b (b_eqT (by omega) (by omega)) ?_ | refine VV.b (b_eqF (by omega) (by omega)) ?_ | refine VV.b (b_neT (by omega) (by omega)) ?_ | refine VV.b (b_neF (by omega) (by omega)) ?_)
    · intro p hI x2
      repeat (first | refine VV.g58n rfl rfl hn ?_ | refine VV.g58 rfl rfl ?_ | refine VV.pf rfl rfl ?_ | refine VV.add rfl ?_ | refine VV.inc rfl rfl rfl ?_ | refine VV.mul rfl ?_ | refine VV.sub rfl (by omega) ?_ | refine VV.shl1 rfl (by omega) ?_ | refine VV.shl rfl ⟨by omega, by omega⟩ ?_ | refine VV.shr rfl ⟨by omega, by omega⟩ ?_ | refine VV.and rfl ?_ | refine VV.div rfl ⟨by omega, by omega, by omega⟩ ?_ | refine VV.rem rfl ⟨by omega, by omega, by omega⟩ ?_ | refine VV.s rfl ?_  | refine VV.b (b_ltT (by omega) (by omega)) ?_ | refine VV.b (b_ltF (by omega) (by omega)) ?_ | refine VV.b (b_geT (by omega) (by omega)) ?_ | refine VV.b (b_geF (by omega) (by omega)) ?_ | refine VV.b (b_gtT (by omega) (by omega)) ?_ | refine VV.b (b_gtF (by omega) (by omega)) ?_ | refine VV.b (b_leT (by omega) (by omega)) ?_ | refine VV.b (b_leF (by omega) (by omega)) ?_ | refine VV.b (b_eqT (by omega) (by omega)) ?_ | refine VV.b (b_eqF (by omega) (by omega)) ?_ | refine VV.b (b_neT (by omega) (by omega)) ?_ | refine VV.b (b_neF (by omega) (by omega)) ?_)
      refine VV.r rfl (q _ _ _ (RM.mk h.n (fun k l hk hl => ?_) h.V h.cm h.ck (rfl) (fun k hk => absurd hk (Nat.not_lt_zero k)) h.sm h.se h.em h.ev h.bm h.bk h.tm h.tx h.ts h.tl h.ti h.im0 h.im1) (FK.ut (by decide) (FK.ua (by decide) (FK.ub (by decide) (FK.ub (by decide) FK.refl)))))
      show (p.1 (4 * k + l)).toInt64 = prodE s.c (4 * k + l)
      rw [show p.1 (4 * k + l) = (prodE s.c (4 * k + l)).toInt32 from hI k l hk hl (Or.inl hk)]
      have b1 := (pst_b (m := s.c.m 1) h4 i.c.cm (fun k hk => i.c.ck k hk) (s.c.m 1) (Nat.le_refl _) (4 * k + l)).1
      have b2 := hle k l hk hl
      rw [Int64.le_iff_toInt_le, pk_lT (by omega)] at b2
      exact t3264 (by
        show (prodE s.c (4 * k + l)).toInt.natAbs ≤ 1000
        have b1 : 0 ≤ (prodE s.c (4 * k + l)).toInt := b1
        omega)
  have stop : ∀ a b, a < s.c.n → b < s.c.n → lN 99 < prodE s.c (4 * a + b) → tkB (prodE s.c) s.c.n = false := by
    intro a b ha hb c
    cases e : tkB (prodE s.c) s.c.n with
    | false => rfl
    | true => exact absurd c (le99.mpr (tkB_t.mp e a b ha hb))
  refine CC.of rfl ?_
  have O := VV.inv (fun k (p : (Nat → Int64) × (Nat → Int64)) => ∀ a b, a < k → b < s.c.n → prodE s.c (4 * a + b) ≤ lN 99) (fun k p => ∀ x2, VV (d + 5) M_M_take 2 [some (.ref 58), some (.int (nI k)), x2] [] (HH S τ A (up (up B 68 p.1) 69 p.2)) Q) s.c.n ?_ ?_ s.c.n 0 (B 68, B 69) (by omega) (fun a b z => absurd z (by omega)) none
  · rw [show up (up B 68 (B 68, B 69).1) 69 (B 68, B 69).2 = B from (by
      show up (up B 68 (B 68)) 69 (B 69) = B
      rw [up_id, up_id])] at O
    repeat (first | exact O | refine VV.add rfl ?_ | refine VV.inc rfl rfl rfl ?_ | refine VV.mul rfl ?_ | refine VV.sub rfl (by omega) ?_ | refine VV.shl1 rfl (by omega) ?_ | refine VV.shl rfl ⟨by omega, by omega⟩ ?_ | refine VV.shr rfl ⟨by omega, by omega⟩ ?_ | refine VV.and rfl ?_ | refine VV.div rfl ⟨by omega, by omega, by omega⟩ ?_ | refine VV.rem rfl ⟨by omega, by omega, by omega⟩ ?_ | refine VV.s rfl ?_  | refine VV.b (b_ltT (by omega) (by omega)) ?_ | refine VV.b (b_ltF (by omega) (by omega)) ?_ | refine VV.b (b_geT (by omega) (by omega)) ?_ | refine VV.b (b_geF (by omega) (by omega)) ?_ | refine VV.b (b_gtT (by omega) (by omega)) ?_ | refine VV.b (b_gtF (by omega) (by omega)) ?_ | refine VV.b (b_leT (by omega) (by omega)) ?_ | refine VV.b (b_leF (by omega) (by omega)) ?_ | refine VV.b (b_eqT (by omega) (by omega)) ?_ | refine VV.b (b_eqF (by omega) (by omega)) ?_ | refine VV.b (b_neT (by omega) (by omega)) ?_ | refine VV.b (b_neF (by omega) (by omega)) ?_)
  · intro k p hk hI nxt x2
    have I := VV.inv (fun l (p : (Nat → Int64) × (Nat → Int64)) => ∀ b, b < l → prodE s.c (4 * k + b) ≤ lN 99) (fun l p => VV (d + 5) M_M_take 12 [some (.ref 58), some (.int (nI k)), some (.int (nI l))] [] (HH S τ A (up (up B 68 p.1) 69 p.2)) Q) s.c.n ?_ ?_ s.c.n 0 p (by omega) (fun b z => absurd z (by omega))
    · repeat (first | exact I | refine VV.g58n rfl rfl hn ?_ | refine VV.g58 rfl rfl ?_ | refine VV.pf rfl rfl ?_ | refine VV.add rfl ?_ | refine VV.inc rfl rfl rfl ?_ | refine VV.mul rfl ?_ | refine VV.sub rfl (by omega) ?_ | refine VV.shl1 rfl (by omega) ?_ | refine VV.shl rfl ⟨by omega, by omega⟩ ?_ | refine VV.shr rfl ⟨by omega, by omega⟩ ?_ | refine VV.and rfl ?_ | refine VV.div rfl ⟨by omega, by omega, by omega⟩ ?_ | refine VV.rem rfl ⟨by omega, by omega, by omega⟩ ?_ | refine VV.s rfl ?_  | refine VV.b (b_ltT (by omega) (by omega)) ?_ | refine VV.b (b_ltF (by omega) (by omega)) ?_ | refine VV.b (b_geT (by omega) (by omega)) ?_ | refine VV.b (b_geF (by omega) (by omega)) ?_ | refine VV.b (b_gtT (by omega) (by omega)) ?_ | refine VV.b (b_gtF (by omega) (by omega)) ?_ | refine VV.b (b_leT (by omega) (by omega)) ?_ | refine VV.b (b_leF (by omega) (by omega)) ?_ | refine VV.b (b_eqT (by omega) (by omega)) ?_ | refine VV.b (b_eqF (by omega) (by omega)) ?_ | refine VV.b (b_neT (by omega) (by omega)) ?_ | refine VV.b (b_neF (by omega) (by omega)) ?_)
    · intro l p hl hI2 nx2
      repeat (first | refine VV.g58n rfl rfl hn ?_ | refine VV.g58 rfl rfl ?_ | refine VV.pf rfl rfl ?_ | refine VV.add rfl ?_ | refine VV.inc rfl rfl rfl ?_ | refine VV.mul rfl ?_ | refine VV.sub rfl (by omega) ?_ | refine VV.shl1 rfl (by omega) ?_ | refine VV.shl rfl ⟨by omega, by omega⟩ ?_ | refine VV.shr rfl ⟨by omega, by omega⟩ ?_ | refine VV.and rfl ?_ | refine VV.div rfl ⟨by omega, by omega, by omega⟩ ?_ | refine VV.rem rfl ⟨by omega, by omega, by omega⟩ ?_ | refine VV.s rfl ?_  | refine VV.b (b_ltT (by omega) (by omega)) ?_ | refine VV.b (b_ltF (by omega) (by omega)) ?_ | refine VV.b (b_geT (by omega) (by omega)) ?_ | refine VV.b (b_geF (by omega) (by omega)) ?_ | refine VV.b (b_gtT (by omega) (by omega)) ?_ | refine VV.b (b_gtF (by omega) (by omega)) ?_ | refine VV.b (b_leT (by omega) (by omega)) ?_ | refine VV.b (b_leF (by omega) (by omega)) ?_ | refine VV.b (b_eqT (by omega) (by omega)) ?_ | refine VV.b (b_eqF (by omega) (by omega)) ?_ | refine VV.b (b_neT (by omega) (by omega)) ?_ | refine VV.b (b_neF (by omega) (by omega)) ?_)
      (refine VV.c rfl ?_; refine cm_waysTo (s := s) i.c h.cm h.ck (pop_1 (show k < 4 by omega)).2 (pop_1 (show l < 4 by omega)).2 (fun W V => ?_))
      rw [ways_E i.c hk hl, up_comm _ _ _ (show (69 : Nat) ≠ 68 by decide), up_up, up_up]
      repeat refine VV.s rfl ?_
      refine VV.cle (fun c => ?_) (fun c => ?_)
      · rw [stop k l hk hl c] at q
        repeat refine VV.s rfl ?_
        exact VV.r rfl (q _ _ _ (h.ways W V) (FK.ways W V))
      · have := nx2 (W, V) (fun b hb => by
          by_cases e : b = l
          · subst e; exact le99.mp c
          · exact hI2 b (by omega))
        repeat (first | exact this | refine VV.add rfl ?_ | refine VV.inc rfl rfl rfl ?_ | refine VV.mul rfl ?_ | refine VV.sub rfl (by omega) ?_ | refine VV.shl1 rfl (by omega) ?_ | refine VV.shl rfl ⟨by omega, by omega⟩ ?_ | refine VV.shr rfl ⟨by omega, by omega⟩ ?_ | refine VV.and rfl ?_ | refine VV.div rfl ⟨by omega, by omega, by omega⟩ ?_ | refine VV.rem rfl ⟨by omega, by omega, by omega⟩ ?_ | refine VV.s rfl ?_  | refine VV.b (b_ltT (by omega) (by omega)) ?_ | refine VV.b (b_ltF (by omega) (by omega)) ?_ | refine VV.b (b_geT (by omega) (by omega)) ?_ | refine VV.b (b_geF (by omega) (by omega)) ?_ | refine VV.b (b_gtT (by omega) (by omega)) ?_ | refine VV.b (b_gtF (by omega) (by omega)) ?_ | refine VV.b (b_leT (by omega) (by omega)) ?_ | refine VV.b (b_leF (by omega) (by omega)) ?_ | refine VV.b (b_eqT (by omega) (by omega)) ?_ | refine VV.b (b_eqF (by omega) (by omega)) ?_ | refine VV.b (b_neT (by omega) (by omega)) ?_ | refine VV.b (b_neF (by omega) (by omega)) ?_)
    · intro p hI2
      have := nxt p (fun a b ha hb => by
        by_cases e : a = k
        · subst e; exact hI2 b hb
        · exact hI a b (by omega) hb) (some (.int (nI s.c.n)))
      repeat (first | exact this | refine VV.g58n rfl rfl hn ?_ | refine VV.g58 rfl rfl ?_ | refine VV.pf rfl rfl ?_ | refine VV.add rfl ?_ | refine VV.inc rfl rfl rfl ?_ | refine VV.mul rfl ?_ | refine VV.sub rfl (by omega) ?_ | refine VV.shl1 rfl (by omega) ?_ | refine VV.shl rfl ⟨by omega, by omega⟩ ?_ | refine VV.shr rfl ⟨by omega, by omega⟩ ?_ | refine VV.and rfl ?_ | refine VV.div rfl ⟨by omega, by omega, by omega⟩ ?_ | refine VV.rem rfl ⟨by omega, by omega, by omega⟩ ?_ | refine VV.s rfl ?_  | refine VV.b (b_ltT (by omega) (by omega)) ?_ | refine VV.b (b_ltF (by omega) (by omega)) ?_ | refine VV.b (b_geT (by omega) (by omega)) ?_ | refine VV.b (b_geF (by omega) (by omega)) ?_ | refine VV.b (b_gtT (by omega) (by omega)) ?_ | refine VV.b (b_gtF (by omega) (by omega)) ?_ | refine VV.b (b_leT (by omega) (by omega)) ?_ | refine VV.b (b_leF (by omega) (by omega)) ?_ | refine VV.b (b_eqT (by omega) (by omega)) ?_ | refine VV.b (b_eqF (by omega) (by omega)) ?_ | refine VV.b (b_neT (by omega) (by omega)) ?_ | refine VV.b (b_neF (by omega) (by omega)) ?_)
  · intro p hI x2
    have := P2 (tkB_t.mpr (fun a b ha hb => hI a b ha hb)) p.1 p.2 x2
    repeat (first | exact this | refine VV.g58n rfl rfl hn ?_ | refine VV.g58 rfl rfl ?_ | refine VV.pf rfl rfl ?_ | refine VV.add rfl ?_ | refine VV.inc rfl rfl rfl ?_ | refine VV.mul rfl ?_ | refine VV.sub rfl (by omega) ?_ | refine VV.shl1 rfl (by omega) ?_ | refine VV.shl rfl ⟨by omega, by omega⟩ ?_ | refine VV.shr rfl ⟨by omega, by omega⟩ ?_ | refine VV.and rfl ?_ | refine VV.div rfl ⟨by omega, by omega, by omega⟩ ?_ | refine VV.rem rfl ⟨by omega, by omega, by omega⟩ ?_ | refine VV.s rfl ?_  | refine VV.b (b_ltT (by omega) (by omega)) ?_ | refine VV.b (b_ltF (by omega) (by omega)) ?_ | refine VV.b (b_geT (by omega) (by omega)) ?_ | refine VV.b (b_geF (by omega) (by omega)) ?_ | refine VV.b (b_gtT (by omega) (by omega)) ?_ | refine VV.b (b_gtF (by omega) (by omega)) ?_ | refine VV.b (b_leT (by omega) (by omega)) ?_ | refine VV.b (b_leF (by omega) (by omega)) ?_ | refine VV.b (b_eqT (by omega) (by omega)) ?_ | refine VV.b (b_eqF (by omega) (by omega)) ?_ | refine VV.b (b_neT (by omega) (by omega)) ?_ | refine VV.b (b_neF (by omega) (by omega)) ?_)
end Y7
