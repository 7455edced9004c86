/-! the class's calls: product, productMinor, paths, take, after -/
def hapE (n a : Nat) (x : Int32) (E : Nat → Int64) : Nat → Int64 := if a = 3 then (fun p => E (4 * (p % 4) + p / 4)) else if a = 2 then (fun p => if x.toNatClampNeg + 1 < n then E (4 * swr x.toNatClampNeg (p / 4) + p % 4) else E p) else if x.toNatClampNeg / 10 < n ∧ x.toNatClampNeg % 10 < n then up E (cel x) (if a = 1 then 0 else if lN 99 < E (cel x) + lN 1 then lN 99 else E (cel x) + lN 1) else E
def aftE (n : Nat) (r : Nat → Nat → Int32) (E : Nat → Int64) : Nat → Nat → Int64
  | 0 => E
  | k + 1 => hapE n (r k 0).toNatClampNeg (r k 1) (aftE n r E k)
abbrev aft (c : Co) : Nat → Int64 := aftE c.n (c.r 4) c.E (c.m 4)
def oAfter (s : St) (w : Int32) : Int64 × St := (if rgB (nI 0) (nI 2) w = true then (if w = nI 0 then (nI (abT (aft s.c) s.c.n)).toInt64 else if w = nI 1 then (amR (amI (aft s.c) s.c.n s.c.n 0)).toInt64 else mnr (aft s.c) (2 ^ s.c.n - 1) (2 ^ s.c.n - 1)) else noJ, s)
def evOk (a : Nat) (x : Int32) : Prop := a < 4 ∧ (a < 2 → ∃ i j, i < 4 ∧ j < 4 ∧ x = nI (10 * i + j)) ∧ (a = 2 → ∃ r, r < 3 ∧ x = nI r)
section XI
variable {S : Cl} {τ : Nat → Int32} {A : Nat → Nat → Int32} {B : Nat → Nat → Int64}
variable {d n : Nat} {Q : Option Value → Hp → Prop}
theorem c_atSpotX {g : Nat} (hg : (lkp tabG g).isSome = true) (hn : τ (100 * g + 2) = nI n) (h4 : n ≤ 4) {i j : Nat} (hi : i < 4) (hj : j < 4) (q : Q (some (.long (if i < n ∧ j < n then B (g + 1) (4 * i + j) else 0))) (HH S τ A B)) : CC (d + 1) M_Grid_atSpot [.ref g, .int (nI (10 * i + j))] (HH S τ A B) Q := by
  by_cases c : i < n ∧ j < n
  · rw [if_pos c] at q
    exact c_atSpot hg hn h4 c.1 c.2 q
  · rw [if_neg c] at q
    refine CC.of rfl ?_
    repeat refine VV.s rfl ?_
    (refine VV.c rfl ?_; refine c_rowOfN (show j < 10 by omega) (by omega) ?_)
    repeat refine VV.s rfl ?_
    (refine VV.c rfl ?_; refine c_columnOfN (show j < 10 by omega) (by omega) ?_)
    refine VV.cv rfl (rdG hg).1 ?_
    refine CC.of rfl ?_
    by_cases ci : i < n
    · have cj : ¬ j < n := fun z => c ⟨ci, z⟩
      repeat (first | refine VV.add rfl ?_ | refine VV.inc rfl rfl rfl ?_ | refine VV.mul rfl ?_ | refine VV.sub rfl (by omega) ?_ | refine VV.shl1 rfl (by omega) ?_ | refine VV.shl rfl ⟨by omega, by omega⟩ ?_ | refine VV.shr rfl ⟨by omega, by omega⟩ ?_ | refine VV.and rfl ?_ | refine VV.div rfl ⟨by omega, by omega, by omega⟩ ?_ | refine VV.rem rfl ⟨by omega, by omega, by omega⟩ ?_ | refine VV.s rfl ?_ | refine VV.gn rfl (rdG hg).1 rfl hn ?_ | refine VV.g rfl (rdG hg).1 rfl ?_ | refine VV.b (b_ltT (by omega) (by omega)) ?_ | refine VV.b (b_ltF (by omega) (by omega)) ?_ | refine VV.b (b_geT (by omega) (by omega)) ?_ | refine VV.b (b_geF (by omega) (by omega)) ?_ | refine VV.b (b_gtT (by omega) (by omega)) ?_ | refine VV.b (b_gtF (by omega) (by omega)) ?_ | refine VV.b (b_leT (by omega) (by omega)) ?_ | refine VV.b (b_leF (by omega) (by omega)) ?_ | refine VV.b (b_eqT (by omega) (by omega)) ?_ | refine VV.b (b_eqF (by omega) (by omega)) ?_ | refine VV.b (b_neT (by omega) (by omega)) ?_ | refine VV.b (b_neF (by omega) (by omega)) ?_)
      refine VV.r rfl ?_
      exact VV.r rfl q
    · repeat (first | refine VV.add rfl ?_ | refine VV.inc rfl rfl rfl ?_ | refine VV.mul rfl ?_ | refine VV.sub rfl (by omega) ?_ | refine VV.shl1 rfl (by omega) ?_ | refine VV.shl rfl ⟨by omega, by omega⟩ ?_ | refine VV.shr rfl ⟨by omega, by omega⟩ ?_ | refine VV.and rfl ?_ | refine VV.div rfl ⟨by omega, by omega, by omega⟩ ?_ | refine VV.rem rfl ⟨by omega, by omega, by omega⟩ ?_ | refine VV.s rfl ?_ | refine VV.gn rfl (rdG hg).1 rfl hn ?_ | refine VV.g rfl (rdG hg).1 rfl ?_ | refine VV.b (b_ltT (by omega) (by omega)) ?_ | refine VV.b (b_ltF (by omega) (by omega)) ?_ | refine VV.b (b_geT (by omega) (by omega)) ?_ | refine VV.b (b_geF (by omega) (by omega)) ?_ | refine VV.b (b_gtT (by omega) (by omega)) ?_ | refine VV.b (b_gtF (by omega) (by omega)) ?_ | refine VV.b (b_leT (by omega) (by omega)) ?_ | refine VV.b (b_leF (by omega) (by omega)) ?_ | refine VV.b (b_eqT (by omega) (by omega)) ?_ | refine VV.b (b_eqF (by omega) (by omega)) ?_ | refine VV.b (b_neT (by omega) (by omega)) ?_ | refine VV.b (b_neF (by omega) (by omega)) ?_)
      refine VV.r rfl ?_
      exact VV.r rfl q
theorem c_putSpotX {g : Nat} (hg : (lkp tabG g).isSome = true) (hn : τ (100 * g + 2) = nI n) (h4 : n ≤ 4) {i j : Nat} {x : Int64} (hi : i < 4) (hj : j < 4) (q : Q none (HH S τ A (up B (g + 1) (if i < n ∧ j < n then up (B (g + 1)) (4 * i + j) x else B (g + 1))))) : CC (d + 1) M_Grid_putSpot [.ref g, .int (nI (10 * i + j)), .long x] (HH S τ A B) Q := by
  by_cases c : i < n ∧ j < n
  · rw [if_pos c] at q
    exact c_putSpot hg hn h4 c.1 c.2 q
  · rw [if_neg c, up_id] at q
    refine CC.of rfl ?_
    repeat refine VV.s rfl ?_
    (refine VV.c rfl ?_; refine c_rowOfN (show j < 10 by omega) (by omega) ?_)
    repeat refine VV.s rfl ?_
    (refine VV.c rfl ?_; refine c_columnOfN (show j < 10 by omega) (by omega) ?_)
    refine VV.s rfl ?_
    refine VV.cv rfl (rdG hg).1 ?_
    refine CC.of rfl ?_
    by_cases ci : i < n
    · have cj : ¬ j < n := fun z => c ⟨ci, z⟩
      repeat (first | refine VV.add rfl ?_ | refine VV.inc rfl rfl rfl ?_ | refine VV.mul rfl ?_ | refine VV.sub rfl (by omega) ?_ | refine VV.shl1 rfl (by omega) ?_ | refine VV.shl rfl ⟨by omega, by omega⟩ ?_ | refine VV.shr rfl ⟨by omega, by omega⟩ ?_ | refine VV.and rfl ?_ | refine VV.div rfl ⟨by omega, by omega, by omega⟩ ?_ | refine VV.rem rfl ⟨by omega, by omega, by omega⟩ ?_ | refine VV.s rfl ?_ | refine VV.gn rfl (rdG hg).1 rfl hn ?_ | refine VV.g rfl (rdG hg).1 rfl ?_ | refine VV.b (b_ltT (by omega) (by omega)) ?_ | refine VV.b (b_ltF (by omega) (by omega)) ?_ | refine VV.b (b_geT (by omega) (by omega)) ?_ | refine VV.b (b_geF (by omega) (by omega)) ?_ | refine VV.b (b_gtT (by omega) (by omega)) ?_ | refine VV.b (b_gtF (by omega) (by omega)) ?_ | refine VV.b (b_leT (by omega) (by omega)) ?_ | refine VV.b (b_leF (by omega) (by omega)) ?_ | refine VV.b (b_eqT (by omega) (by omega)) ?_ | refine VV.b (b_eqF (by omega) (by omega)) ?_ | refine VV.b (b_neT (by omega) (by omega)) ?_ | refine VV.b (b_neF (by omega) (by omega)) ?_)
      refine VV.r rfl ?_
      exact VV.r rfl q
    · repeat (first | refine VV.add rfl ?_ | refine VV.inc rfl rfl rfl ?_ | refine VV.mul rfl ?_ | refine VV.sub rfl (by omega) ?_ | refine VV.shl1 rfl (by omega) ?_ | refine VV.shl rfl ⟨by omega, by omega⟩ ?_ | refine VV.shr rfl ⟨by omega, by omega⟩ ?_ | refine VV.and rfl ?_ | refine VV.div rfl ⟨by omega, by omega, by omega⟩ ?_ | refine VV.rem rfl ⟨by omega, by omega, by omega⟩ ?_ | refine VV.s rfl ?_ | refine VV.gn rfl (rdG hg).1 rfl hn ?_ | refine VV.g rfl (rdG hg).1 rfl ?_ | refine VV.b (b_ltT (by omega) (by omega)) ?_ | refine VV.b (b_ltF (by omega) (by omega)) ?_ | refine VV.b (b_geT (by omega) (by omega)) ?_ | refine VV.b (b_geF (by omega) (by omega)) ?_ | refine VV.b (b_gtT (by omega) (by omega)) ?_ | refine VV.b (b_gtF (by omega) (by omega)) ?_ | refine VV.b (b_leT (by omega) (by omega)) ?_ | refine VV.b (b_leF (by omega) (by omega)) ?_ | refine VV.b (b_eqT (by omega) (by omega)) ?_ | refine VV.b (b_eqF (by omega) (by omega)) ?_ | refine VV.b (b_neT (by omega) (by omega)) ?_ | refine VV.b (b_neF (by omega) (by omega)) ?_)
      refine VV.r rfl ?_
      exact VV.r rfl q
theorem cx_mult {c : Co} (i : IC c) (h : RS 0 c τ A B) (q : ∀ E, (∀ i j, i < c.n → j < c.n → E (4 * i + j) = prodE c (4 * i + j)) → Q none (HH S (up τ 3202 (nI c.n)) A (up B 33 E))) : CC (d + 2) M_T_multiplyChips [.ref 1] (HH S τ A B) Q := by
  have hn : τ (100 * 3 + 2) = nI c.n := h.n
  have h4 := i.n4
  have hcm := i.cm
  refine CC.of rfl ?_
  repeat refine VV.s rfl ?_
  (refine VV.c rfl ?_; refine c_lines (g := 3) rfl hn h4 ?_)
  repeat refine VV.s rfl ?_
  (refine VV.c rfl ?_; refine c_becomeUnit (g := 32) rfl h4 (fun E0 hE0 => ?_))
  have V := VV.inv (fun k (E : Nat → Int64) => ∀ i j, i < c.n → j < c.n → E (4 * i + j) = pst (c.r 1) k (4 * i + j)) (fun k E => ∀ x2 x3 x4, VV (d + 2) M_T_multiplyChips 19 [some (.ref 1), some (.int (nI k)), x2, x3, x4] [] (HH S (up τ 3202 (nI c.n)) A (up B 33 E)) Q) (c.m 1) ?_ ?_ (c.m 1) 0 E0 (by omega) (fun a b ha hb => by
    show _ = idm ((4 * a + b) / 4) ((4 * a + b) % 4)
    have hb4 : b < 4 := Nat.lt_of_lt_of_le hb h4
    rw [show (4 * a + b) / 4 = a by omega, show (4 * a + b) % 4 = b by omega]
    exact hE0 a b ha hb) none none none
  · repeat (first | exact V | refine VV.add rfl ?_ | refine VV.inc rfl rfl rfl ?_ | refine VV.mul rfl ?_ | refine VV.sub rfl (by omega) ?_ | refine VV.shl1 rfl (by omega) ?_ | refine VV.shl rfl ⟨by omega, by omega⟩ ?_ | refine VV.shr rfl ⟨by omega, by omega⟩ ?_ | refine VV.and rfl ?_ | refine VV.div rfl ⟨by omega, by omega, by omega⟩ ?_ | refine VV.rem rfl ⟨by omega, by omega, by omega⟩ ?_ | refine VV.s rfl ?_  | refine VV.b (b_ltT (by omega) (by omega)) ?_ | refine VV.b (b_ltF (by omega) (by omega)) ?_ | refine VV.b (b_geT (by omega) (by omega)) ?_ | refine VV.b (b_geF (by omega) (by omega)) ?_ | refine VV.b (b_gtT (by omega) (by omega)) ?_ | refine VV.b (b_gtF (by omega) (by omega)) ?_ | refine VV.b (b_leT (by omega) (by omega)) ?_ | refine VV.b (b_leF (by omega) (by omega)) ?_ | refine VV.b (b_eqT (by omega) (by omega)) ?_ | refine VV.b (b_eqF (by omega) (by omega)) ?_ | refine VV.b (b_neT (by omega) (by omega)) ?_ | refine VV.b (b_neF (by omega) (by omega)) ?_)
  · intro k E hk hI nxt x2 x3 x4
    have hm2 : up τ 3202 (nI c.n) (100 * 6 + 2) = nI (c.m 1) := h.chip.h
    obtain ⟨a, l, v, e0, e1, e2, hc⟩ := i.ck k hk
    have hc : chOk c.n a l v := hc
    have hab := ab_lt h4 hc
    have ha := hc.1
    have v1 := hc.2.2
    repeat (first | refine VV.add rfl ?_ | refine VV.inc rfl rfl rfl ?_ | refine VV.mul rfl ?_ | refine VV.sub rfl (by omega) ?_ | refine VV.shl1 rfl (by omega) ?_ | refine VV.shl rfl ⟨by omega, by omega⟩ ?_ | refine VV.shr rfl ⟨by omega, by omega⟩ ?_ | refine VV.and rfl ?_ | refine VV.div rfl ⟨by omega, by omega, by omega⟩ ?_ | refine VV.rem rfl ⟨by omega, by omega, by omega⟩ ?_ | refine VV.s rfl ?_  | refine VV.b (b_ltT (by omega) (by omega)) ?_ | refine VV.b (b_ltF (by omega) (by omega)) ?_ | refine VV.b (b_geT (by omega) (by omega)) ?_ | refine VV.b (b_geF (by omega) (by omega)) ?_ | refine VV.b (b_gtT (by omega) (by omega)) ?_ | refine VV.b (b_gtF (by omega) (by omega)) ?_ | refine VV.b (b_leT (by omega) (by omega)) ?_ | refine VV.b (b_leF (by omega) (by omega)) ?_ | refine VV.b (b_eqT (by omega) (by omega)) ?_ | refine VV.b (b_eqF (by omega) (by omega)) ?_ | refine VV.b (b_neT (by omega) (by omega)) ?_ | refine VV.b (b_neF (by omega) (by omega)) ?_)
    (refine VV.c rfl ?_; refine cr_held (o := 6) rfl hm2 ?_)
    repeat (first | refine VV.add rfl ?_ | refine VV.inc rfl rfl rfl ?_ | refine VV.mul rfl ?_ | refine VV.sub rfl (by omega) ?_ | refine VV.shl1 rfl (by omega) ?_ | refine VV.shl rfl ⟨by omega, by omega⟩ ?_ | refine VV.shr rfl ⟨by omega, by omega⟩ ?_ | refine VV.and rfl ?_ | refine VV.div rfl ⟨by omega, by omega, by omega⟩ ?_ | refine VV.rem rfl ⟨by omega, by omega, by omega⟩ ?_ | refine VV.s rfl ?_  | refine VV.b (b_ltT (by omega) (by omega)) ?_ | refine VV.b (b_ltF (by omega) (by omega)) ?_ | refine VV.b (b_geT (by omega) (by omega)) ?_ | refine VV.b (b_geF (by omega) (by omega)) ?_ | refine VV.b (b_gtT (by omega) (by omega)) ?_ | refine VV.b (b_gtF (by omega) (by omega)) ?_ | refine VV.b (b_leT (by omega) (by omega)) ?_ | refine VV.b (b_leF (by omega) (by omega)) ?_ | refine VV.b (b_eqT (by omega) (by omega)) ?_ | refine VV.b (b_eqF (by omega) (by omega)) ?_ | refine VV.b (b_neT (by omega) (by omega)) ?_ | refine VV.b (b_neF (by omega) (by omega)) ?_)
    (refine VV.c rfl ?_; refine cr_cell (o := 6) (w := 0) rfl hm2 hcm hk (by omega) ?_)
    rw [show A (6 + 1) (3 * k + 0) = nI a from (h.chip.r k 0 hk (by omega)).trans e0]
    repeat (first | refine VV.add rfl ?_ | refine VV.inc rfl rfl rfl ?_ | refine VV.mul rfl ?_ | refine VV.sub rfl (by omega) ?_ | refine VV.shl1 rfl (by omega) ?_ | refine VV.shl rfl ⟨by omega, by omega⟩ ?_ | refine VV.shr rfl ⟨by omega, by omega⟩ ?_ | refine VV.and rfl ?_ | refine VV.div rfl ⟨by omega, by omega, by omega⟩ ?_ | refine VV.rem rfl ⟨by omega, by omega, by omega⟩ ?_ | refine VV.s rfl ?_  | refine VV.b (b_ltT (by omega) (by omega)) ?_ | refine VV.b (b_ltF (by omega) (by omega)) ?_ | refine VV.b (b_geT (by omega) (by omega)) ?_ | refine VV.b (b_geF (by omega) (by omega)) ?_ | refine VV.b (b_gtT (by omega) (by omega)) ?_ | refine VV.b (b_gtF (by omega) (by omega)) ?_ | refine VV.b (b_leT (by omega) (by omega)) ?_ | refine VV.b (b_leF (by omega) (by omega)) ?_ | refine VV.b (b_eqT (by omega) (by omega)) ?_ | refine VV.b (b_eqF (by omega) (by omega)) ?_ | refine VV.b (b_neT (by omega) (by omega)) ?_ | refine VV.b (b_neF (by omega) (by omega)) ?_)
    (refine VV.c rfl ?_; refine cr_cell (o := 6) (w := 1) rfl hm2 hcm hk (by omega) ?_)
    rw [show A (6 + 1) (3 * k + 1) = nI l from (h.chip.r k 1 hk (by omega)).trans e1]
    repeat (first | refine VV.add rfl ?_ | refine VV.inc rfl rfl rfl ?_ | refine VV.mul rfl ?_ | refine VV.sub rfl (by omega) ?_ | refine VV.shl1 rfl (by omega) ?_ | refine VV.shl rfl ⟨by omega, by omega⟩ ?_ | refine VV.shr rfl ⟨by omega, by omega⟩ ?_ | refine VV.and rfl ?_ | refine VV.div rfl ⟨by omega, by omega, by omega⟩ ?_ | refine VV.rem rfl ⟨by omega, by omega, by omega⟩ ?_ | refine VV.s rfl ?_  | refine VV.b (b_ltT (by omega) (by omega)) ?_ | refine VV.b (b_ltF (by omega) (by omega)) ?_ | refine VV.b (b_geT (by omega) (by omega)) ?_ | refine VV.b (b_geF (by omega) (by omega)) ?_ | refine VV.b (b_gtT (by omega) (by omega)) ?_ | refine VV.b (b_gtF (by omega) (by omega)) ?_ | refine VV.b (b_leT (by omega) (by omega)) ?_ | refine VV.b (b_leF (by omega) (by omega)) ?_ | refine VV.b (b_eqT (by omega) (by omega)) ?_ | refine VV.b (b_eqF (by omega) (by omega)) ?_ | refine VV.b (b_neT (by omega) (by omega)) ?_ | refine VV.b (b_neF (by omega) (by omega)) ?_)
    (refine VV.c rfl ?_; refine cr_cell (o := 6) (w := 2) rfl hm2 hcm hk (by omega) ?_)
    rw [show A (6 + 1) (3 * k + 2) = nI v from (h.chip.r k 2 hk (by omega)).trans e2]
    repeat (first | refine VV.add rfl ?_ | refine VV.inc rfl rfl rfl ?_ | refine VV.mul rfl ?_ | refine VV.sub rfl (by omega) ?_ | refine VV.shl1 rfl (by omega) ?_ | refine VV.shl rfl ⟨by omega, by omega⟩ ?_ | refine VV.shr rfl ⟨by omega, by omega⟩ ?_ | refine VV.and rfl ?_ | refine VV.div rfl ⟨by omega, by omega, by omega⟩ ?_ | refine VV.rem rfl ⟨by omega, by omega, by omega⟩ ?_ | refine VV.s rfl ?_  | refine VV.b (b_ltT (by omega) (by omega)) ?_ | refine VV.b (b_ltF (by omega) (by omega)) ?_ | refine VV.b (b_geT (by omega) (by omega)) ?_ | refine VV.b (b_geF (by omega) (by omega)) ?_ | refine VV.b (b_gtT (by omega) (by omega)) ?_ | refine VV.b (b_gtF (by omega) (by omega)) ?_ | refine VV.b (b_leT (by omega) (by omega)) ?_ | refine VV.b (b_leF (by omega) (by omega)) ?_ | refine VV.b (b_eqT (by omega) (by omega)) ?_ | refine VV.b (b_eqF (by omega) (by omega)) ?_ | refine VV.b (b_neT (by omega) (by omega)) ?_ | refine VV.b (b_neF (by omega) (by omega)) ?_)
    (refine VV.c rfl ?_; refine cl_ahead ha ?_)
    repeat (first | refine VV.add rfl ?_ | refine VV.inc rfl rfl rfl ?_ | refine VV.mul rfl ?_ | refine VV.sub rfl (by omega) ?_ | refine VV.shl1 rfl (by omega) ?_ | refine VV.shl rfl ⟨by omega, by omega⟩ ?_ | refine VV.shr rfl ⟨by omega, by omega⟩ ?_ | refine VV.and rfl ?_ | refine VV.div rfl ⟨by omega, by omega, by omega⟩ ?_ | refine VV.rem rfl ⟨by omega, by omega, by omega⟩ ?_ | refine VV.s rfl ?_  | refine VV.b (b_ltT (by omega) (by omega)) ?_ | refine VV.b (b_ltF (by omega) (by omega)) ?_ | refine VV.b (b_geT (by omega) (by omega)) ?_ | refine VV.b (b_geF (by omega) (by omega)) ?_ | refine VV.b (b_gtT (by omega) (by omega)) ?_ | refine VV.b (b_gtF (by omega) (by omega)) ?_ | refine VV.b (b_leT (by omega) (by omega)) ?_ | refine VV.b (b_leF (by omega) (by omega)) ?_ | refine VV.b (b_eqT (by omega) (by omega)) ?_ | refine VV.b (b_eqF (by omega) (by omega)) ?_ | refine VV.b (b_neT (by omega) (by omega)) ?_ | refine VV.b (b_neF (by omega) (by omega)) ?_)
    (refine VV.c rfl ?_; refine cl_behind ha ?_)
    have hl4 : l < 4 := by
      have := hc.2.1
      by_cases c2 : a = 2
      · rw [if_pos c2] at this; omega
      · rw [if_neg c2] at this; omega
    have fin : ∀ E2, (∀ i j, i < c.n → j < c.n → E2 (4 * i + j) = if j = bL a l then up B 33 E (32 + 1) (4 * i + j) + (nI (if a = 2 then v - 1 else v)).toInt64 * up B 33 E (32 + 1) (4 * i + aL a l) else up B 33 E (32 + 1) (4 * i + j)) → VV (d + 2) M_T_multiplyChips 104 [some (.ref 1), some (.int (nI k)), some (.int (nI a)), some (.int (nI l)), some (.int (nI v))] [] (HH S (up τ 3202 (nI c.n)) A (up B 33 E2)) Q := by
      intro E2 hE2
      have := nxt E2 (fun x y hx hy => by
        have hy4 : y < 4 := Nat.lt_of_lt_of_le hy h4
        have e := hE2 x y hx hy
        rw [nI_l (by split <;> omega)] at e
        rw [e, pst, e0, e1, e2, nI_clamp (by omega), nI_clamp (by omega), nI_clamp (by omega), pst1_at hy4]
        show (if y = bL a l then E (4 * x + y) + lN (if a = 2 then v - 1 else v) * E (4 * x + aL a l) else E (4 * x + y)) = _
        rw [hI x y hx hy, hI x (aL a l) hx hab.1]) (some (.int (nI a))) (some (.int (nI l))) (some (.int (nI v)))
      repeat (first | exact this | refine VV.add rfl ?_ | refine VV.inc rfl rfl rfl ?_ | refine VV.mul rfl ?_ | refine VV.sub rfl (by omega) ?_ | refine VV.shl1 rfl (by omega) ?_ | refine VV.shl rfl ⟨by omega, by omega⟩ ?_ | refine VV.shr rfl ⟨by omega, by omega⟩ ?_ | refine VV.and rfl ?_ | refine VV.div rfl ⟨by omega, by omega, by omega⟩ ?_ | refine VV.rem rfl ⟨by omega, by omega, by omega⟩ ?_ | refine VV.s rfl ?_  | refine VV.b (b_ltT (by omega) (by omega)) ?_ | refine VV.b (b_ltF (by omega) (by omega)) ?_ | refine VV.b (b_geT (by omega) (by omega)) ?_ | refine VV.b (b_geF (by omega) (by omega)) ?_ | refine VV.b (b_gtT (by omega) (by omega)) ?_ | refine VV.b (b_gtF (by omega) (by omega)) ?_ | refine VV.b (b_leT (by omega) (by omega)) ?_ | refine VV.b (b_leF (by omega) (by omega)) ?_ | refine VV.b (b_eqT (by omega) (by omega)) ?_ | refine VV.b (b_eqF (by omega) (by omega)) ?_ | refine VV.b (b_neT (by omega) (by omega)) ?_ | refine VV.b (b_neF (by omega) (by omega)) ?_)
    by_cases c2 : a = 2
    · rw [if_pos c2] at fin
      repeat (first | refine VV.add rfl ?_ | refine VV.inc rfl rfl rfl ?_ | refine VV.mul rfl ?_ | refine VV.sub rfl (by omega) ?_ | refine VV.shl1 rfl (by omega) ?_ | refine VV.shl rfl ⟨by omega, by omega⟩ ?_ | refine VV.shr rfl ⟨by omega, by omega⟩ ?_ | refine VV.and rfl ?_ | refine VV.div rfl ⟨by omega, by omega, by omega⟩ ?_ | refine VV.rem rfl ⟨by omega, by omega, by omega⟩ ?_ | refine VV.s rfl ?_  | refine VV.b (b_ltT (by omega) (by omega)) ?_ | refine VV.b (b_ltF (by omega) (by omega)) ?_ | refine VV.b (b_geT (by omega) (by omega)) ?_ | refine VV.b (b_geF (by omega) (by omega)) ?_ | refine VV.b (b_gtT (by omega) (by omega)) ?_ | refine VV.b (b_gtF (by omega) (by omega)) ?_ | refine VV.b (b_leT (by omega) (by omega)) ?_ | refine VV.b (b_leF (by omega) (by omega)) ?_ | refine VV.b (b_eqT (by omega) (by omega)) ?_ | refine VV.b (b_eqF (by omega) (by omega)) ?_ | refine VV.b (b_neT (by omega) (by omega)) ?_ | refine VV.b (b_neF (by omega) (by omega)) ?_)
      (refine VV.c rfl ?_; refine c_addColumn (g := 32) rfl (up_s _ _ _) h4 hab.1 hab.2 (fun E2 hE2 => ?_))
      rw [up_up]
      exact fin E2 hE2
    · rw [if_neg c2] at fin
      repeat (first | refine VV.add rfl ?_ | refine VV.inc rfl rfl rfl ?_ | refine VV.mul rfl ?_ | refine VV.sub rfl (by omega) ?_ | refine VV.shl1 rfl (by omega) ?_ | refine VV.shl rfl ⟨by omega, by omega⟩ ?_ | refine VV.shr rfl ⟨by omega, by omega⟩ ?_ | refine VV.and rfl ?_ | refine VV.div rfl ⟨by omega, by omega, by omega⟩ ?_ | refine VV.rem rfl ⟨by omega, by omega, by omega⟩ ?_ | refine VV.s rfl ?_  | refine VV.b (b_ltT (by omega) (by omega)) ?_ | refine VV.b (b_ltF (by omega) (by omega)) ?_ | refine VV.b (b_geT (by omega) (by omega)) ?_ | refine VV.b (b_geF (by omega) (by omega)) ?_ | refine VV.b (b_gtT (by omega) (by omega)) ?_ | refine VV.b (b_gtF (by omega) (by omega)) ?_ | refine VV.b (b_leT (by omega) (by omega)) ?_ | refine VV.b (b_leF (by omega) (by omega)) ?_ | refine VV.b (b_eqT (by omega) (by omega)) ?_ | refine VV.b (b_eqF (by omega) (by omega)) ?_ | refine VV.b (b_neT (by omega) (by omega)) ?_ | refine VV.b (b_neF (by omega) (by omega)) ?_)
      (refine VV.c rfl ?_; refine c_addColumn (g := 32) rfl (up_s _ _ _) h4 hab.1 hab.2 (fun E2 hE2 => ?_))
      rw [up_up]
      exact fin E2 hE2
  · intro E hI x2 x3 x4
    have hm2 : up τ 3202 (nI c.n) (100 * 6 + 2) = nI (c.m 1) := h.chip.h
    have := q E hI
    repeat (first | refine VV.add rfl ?_ | refine VV.inc rfl rfl rfl ?_ | refine VV.mul rfl ?_ | refine VV.sub rfl (by omega) ?_ | refine VV.shl1 rfl (by omega) ?_ | refine VV.shl rfl ⟨by omega, by omega⟩ ?_ | refine VV.shr rfl ⟨by omega, by omega⟩ ?_ | refine VV.and rfl ?_ | refine VV.div rfl ⟨by omega, by omega, by omega⟩ ?_ | refine VV.rem rfl ⟨by omega, by omega, by omega⟩ ?_ | refine VV.s rfl ?_  | refine VV.b (b_ltT (by omega) (by omega)) ?_ | refine VV.b (b_ltF (by omega) (by omega)) ?_ | refine VV.b (b_geT (by omega) (by omega)) ?_ | refine VV.b (b_geF (by omega) (by omega)) ?_ | refine VV.b (b_gtT (by omega) (by omega)) ?_ | refine VV.b (b_gtF (by omega) (by omega)) ?_ | refine VV.b (b_leT (by omega) (by omega)) ?_ | refine VV.b (b_leF (by omega) (by omega)) ?_ | refine VV.b (b_eqT (by omega) (by omega)) ?_ | refine VV.b (b_eqF (by omega) (by omega)) ?_ | refine VV.b (b_neT (by omega) (by omega)) ?_ | refine VV.b (b_neF (by omega) (by omega)) ?_)
    (refine VV.c rfl ?_; refine cr_held (o := 6) rfl hm2 ?_)
    repeat (first | refine VV.add rfl ?_ | refine VV.inc rfl rfl rfl ?_ | refine VV.mul rfl ?_ | refine VV.sub rfl (by omega) ?_ | refine VV.shl1 rfl (by omega) ?_ | refine VV.shl rfl ⟨by omega, by omega⟩ ?_ | refine VV.shr rfl ⟨by omega, by omega⟩ ?_ | refine VV.and rfl ?_ | refine VV.div rfl ⟨by omega, by omega, by omega⟩ ?_ | refine VV.rem rfl ⟨by omega, by omega, by omega⟩ ?_ | refine VV.s rfl ?_  | refine VV.b (b_ltT (by omega) (by omega)) ?_ | refine VV.b (b_ltF (by omega) (by omega)) ?_ | refine VV.b (b_geT (by omega) (by omega)) ?_ | refine VV.b (b_geF (by omega) (by omega)) ?_ | refine VV.b (b_gtT (by omega) (by omega)) ?_ | refine VV.b (b_gtF (by omega) (by omega)) ?_ | refine VV.b (b_leT (by omega) (by omega)) ?_ | refine VV.b (b_leF (by omega) (by omega)) ?_ | refine VV.b (b_eqT (by omega) (by omega)) ?_ | refine VV.b (b_eqF (by omega) (by omega)) ?_ | refine VV.b (b_neT (by omega) (by omega)) ?_ | refine VV.b (b_neF (by omega) (by omega)) ?_)
    exact VV.r rfl this
theorem cx_happen {a : Nat} {x : Int32} (hn : τ (100 * 32 + 2) = nI n) (h4 : n ≤ 4) (h1 : 1 ≤ n) (he : evOk a x) (q : ∀ E, (∀ i j, i < n → j < n → E (4 * i + j) = hapE n a x (B 33) (4 * i + j)) → Q none (HH S τ A (up B 33 E))) : CC (d + 3) M_T_happen [.ref 1, .int (nI a), .int x] (HH S τ A B) Q := by
  obtain ⟨ha, hs, hr⟩ := he
  unfold hapE at q
  refine CC.of rfl ?_
  rcases (show a = 0 ∨ a = 1 ∨ a = 2 ∨ a = 3 by omega) with rfl | rfl | rfl | rfl
  · obtain ⟨i, j, hi, hj, rfl⟩ := hs (by omega)
    rw [if_neg (by decide), if_neg (by decide), nI_clamp (by omega), show (10 * i + j) / 10 = i by omega, show (10 * i + j) % 10 = j by omega, cel_nI (by omega) (by omega), if_neg (show ¬ (0 : Nat) = 1 by decide)] at q
    repeat refine VV.s rfl ?_
    (refine VV.c rfl ?_; refine c_atSpotX (g := 32) rfl hn h4 hi hj ?_)
    repeat refine VV.s rfl ?_
    (refine VV.c rfl ?_; refine c_putSpotX (g := 32) rfl hn h4 hi hj ?_)
    refine VV.s rfl ?_
    refine VV.r rfl (q _ (fun k l hk hl => ?_))
    by_cases c : i < n ∧ j < n
    · rw [if_pos c, if_pos c, if_pos c]
    · rw [if_neg c, if_neg c]
  · obtain ⟨i, j, hi, hj, rfl⟩ := hs (by omega)
    rw [if_neg (by decide), if_neg (by decide), nI_clamp (by omega), show (10 * i + j) / 10 = i by omega, show (10 * i + j) % 10 = j by omega, cel_nI (by omega) (by omega), if_pos (show (1 : Nat) = 1 from rfl)] at q
    repeat refine VV.s rfl ?_
    (refine VV.c rfl ?_; refine c_putSpotX (g := 32) rfl hn h4 hi hj ?_)
    refine VV.s rfl ?_
    refine VV.r rfl (q _ (fun k l hk hl => ?_))
    by_cases c : i < n ∧ j < n
    · rw [if_pos c, if_pos c]; rfl
    · rw [if_neg c, if_neg c]
  · obtain ⟨r, hr3, rfl⟩ := hr rfl
    rw [if_neg (by decide), if_pos rfl, nI_clamp (by omega)] at q
    repeat refine VV.s rfl ?_
    (refine VV.c rfl ?_; refine c_swapRows (g := 32) rfl hn h4 (show r < 1000 by omega) (fun E hE => ?_) h1)
    refine VV.s rfl ?_
    refine VV.r rfl (q E (fun k l hk hl => ?_))
    have hl4 : l < 4 := Nat.lt_of_lt_of_le hl h4
    rw [hE k l hk hl, show (4 * k + l) / 4 = k by omega, show (4 * k + l) % 4 = l by omega]
  · rw [if_pos rfl] at q
    repeat refine VV.s rfl ?_
    (refine VV.c rfl ?_; refine c_turnOver (g := 32) rfl hn h4 (fun E hE => ?_))
    refine VV.s rfl ?_
    refine VV.r rfl (q E (fun k l hk hl => ?_))
    have hl4 : l < 4 := Nat.lt_of_lt_of_le hl h4
    rw [hE k l hk hl, show (4 * k + l) / 4 = k by omega, show (4 * k + l) % 4 = l by omega]
end XI
theorem hapE_congr {n a : Nat} {x : Int32} {E E' : Nat → Int64} (h4 : n ≤ 4) (he : evOk a x) (h : ∀ i j, i < n → j < n → E (4 * i + j) = E' (4 * i + j)) {i j : Nat} (hi : i < n) (hj : j < n) : hapE n a x E (4 * i + j) = hapE n a x E' (4 * i + j) := by
  have hj4 : j < 4 := Nat.lt_of_lt_of_le hj h4
  unfold hapE
  by_cases c3 : a = 3
  · rw [if_pos c3, if_pos c3, show (4 * i + j) / 4 = i by omega, show (4 * i + j) % 4 = j by omega]
    exact h j i hj hi
  · rw [if_neg c3, if_neg c3]
    by_cases c2 : a = 2
    · rw [if_pos c2, if_pos c2, show (4 * i + j) / 4 = i by omega, show (4 * i + j) % 4 = j by omega]
      by_cases c : x.toNatClampNeg + 1 < n
      · rw [if_pos c, if_pos c]
        exact h _ j (swr_lt c hi) hj
      · rw [if_neg c, if_neg c]
        exact h i j hi hj
    · rw [if_neg c2, if_neg c2]
      by_cases c : x.toNatClampNeg / 10 < n ∧ x.toNatClampNeg % 10 < n
      · rw [if_pos c, if_pos c]
        have e : E (cel x) = E' (cel x) := h _ _ c.1 c.2
        rw [e]
        exact up_E h _ _ i j hi hj
      · rw [if_neg c, if_neg c]
        exact h i j hi hj
section X9
variable {d : Nat} {s : St}
theorem FN.pr {τ : Nat → Int32} {A : Nat → Nat → Int32} {B : Nat → Nat → Int64} (x : Int32) (E : Nat → Int64) : FN τ A B (up τ 3202 x) A (up B 33 E) := FN.ut (by decide) (FN.ub (by decide) FN.refl)
theorem x_product (i : IV s) {x : Int32} : KXJ (d + 5) M_T_product [.ref 1, .int x] s (oProduct s x) := by
  intro S τ A B Q h q
  unfold oProduct at q
  have hn : τ (100 * 3 + 2) = nI s.c.n := h.now.n
  have h4 := i.c.n4
  refine CC.of rfl ?_
  repeat refine VV.s rfl ?_
  (refine VV.c rfl ?_; refine c_hasSpot (g := 3) rfl hn h4 ?_)
  cases hb : spB s.c.n x with
  | false =>
    rw [hb] at q
    repeat (first | refine VV.add rfl ?_ | refine VV.inc rfl rfl rfl ?_ | refine VV.mul rfl ?_ | refine VV.sub rfl (by omega) ?_ | refine VV.shl1 rfl (by omega) ?_ | refine VV.shl rfl ⟨by omega, by omega⟩ ?_ | refine VV.shr rfl ⟨by omega, by omega⟩ ?_ | refine VV.and rfl ?_ | refine VV.div rfl ⟨by omega, by omega, by omega⟩ ?_ | refine VV.rem rfl ⟨by omega, by omega, by omega⟩ ?_ | refine VV.s rfl ?_  | refine VV.b (b_ltT (by omega) (by omega)) ?_ | refine VV.b (b_ltF (by omega) (by omega)) ?_ | refine VV.b (b_geT (by omega) (by omega)) ?_ | refine VV.b (b_geF (by omega) (by omega)) ?_ | refine VV.b (b_gtT (by omega) (by omega)) ?_ | refine VV.b (b_gtF (by omega) (by omega)) ?_ | refine VV.b (b_leT (by omega) (by omega)) ?_ | refine VV.b (b_leF (by omega) (by omega)) ?_ | refine VV.b (b_eqT (by omega) (by omega)) ?_ | refine VV.b (b_eqF (by omega) (by omega)) ?_ | refine VV.b (b_neT (by omega) (by omega)) ?_ | refine VV.b (b_neF (by omega) (by omega)) ?_)
    exact VV.r rfl (q τ A B h FX.refl)
  | true =>
    rw [hb, if_pos rfl] at q
    obtain ⟨a, b, ha, hb10, hbn, rfl, hab⟩ := spB_spec hb
    have p1 := pop_1 (show a < 4 by omega)
    have p2 := pop_1 (show b < 4 by omega)
    rw [nI_clamp (by omega), show (10 * a + b) / 10 = a by omega, show (10 * a + b) % 10 = b by omega, ← lgv (m := s.c.m 1) h4 (fun k hk => i.c.ck k hk) (s.c.m 1) (Nat.le_refl _) _ _ p1.2 p2.2 (p1.1.trans p2.1.symm), mnr_1 _ (show a < 4 by omega) (show b < 4 by omega)] at q
    show VV _ _ _ _ [.int (nI 1)] _ _
    repeat (first | refine VV.add rfl ?_ | refine VV.inc rfl rfl rfl ?_ | refine VV.mul rfl ?_ | refine VV.sub rfl (by omega) ?_ | refine VV.shl1 rfl (by omega) ?_ | refine VV.shl rfl ⟨by omega, by omega⟩ ?_ | refine VV.shr rfl ⟨by omega, by omega⟩ ?_ | refine VV.and rfl ?_ | refine VV.div rfl ⟨by omega, by omega, by omega⟩ ?_ | refine VV.rem rfl ⟨by omega, by omega, by omega⟩ ?_ | refine VV.s rfl ?_  | refine VV.b (b_ltT (by omega) (by omega)) ?_ | refine VV.b (b_ltF (by omega) (by omega)) ?_ | refine VV.b (b_geT (by omega) (by omega)) ?_ | refine VV.b (b_geF (by omega) (by omega)) ?_ | refine VV.b (b_gtT (by omega) (by omega)) ?_ | refine VV.b (b_gtF (by omega) (by omega)) ?_ | refine VV.b (b_leT (by omega) (by omega)) ?_ | refine VV.b (b_leF (by omega) (by omega)) ?_ | refine VV.b (b_eqT (by omega) (by omega)) ?_ | refine VV.b (b_eqF (by omega) (by omega)) ?_ | refine VV.b (b_neT (by omega) (by omega)) ?_ | refine VV.b (b_neF (by omega) (by omega)) ?_)
    (refine VV.c rfl ?_; refine cx_mult i.c h.now (fun E hE => ?_))
    repeat refine VV.s rfl ?_
    (refine VV.c rfl ?_; refine c_atSpot (g := 32) rfl (up_s _ _ _) h4 ha hbn ?_)
    rw [show up B 33 E (32 + 1) (4 * a + b) = pst (s.c.r 1) (s.c.m 1) (4 * a + b) from hE a b ha hbn]
    exact VV.r rfl (q _ _ _ (h.fn (c := s.c) (FN.pr _ _) (RS.mk h.now.n h.now.E h.now.V h.now.chip h.now.note h.now.seen h.now.event h.now.book)) (FN.pr _ _).fx)
theorem x_productMinor (i : IV s) {x y : Int32} : KXJ (d + 5) M_T_productMinor [.ref 1, .int x, .int y] s (oPaths s x y) := by
  intro S τ A B Q h q
  unfold oPaths at q
  have hn : τ (100 * 3 + 2) = nI s.c.n := h.now.n
  have h4 := i.c.n4
  have hp : 2 ^ s.c.n ≤ 2 ^ 4 := Nat.pow_le_pow_right (by omega) h4
  refine CC.of rfl ?_
  repeat refine VV.s rfl ?_
  (refine VV.c rfl ?_; refine c_hasMinor (g := 3) rfl hn h4 ?_)
  cases hb : mnB s.c.n x y with
  | false =>
    rw [hb] at q
    repeat (first | refine VV.add rfl ?_ | refine VV.inc rfl rfl rfl ?_ | refine VV.mul rfl ?_ | refine VV.sub rfl (by omega) ?_ | refine VV.shl1 rfl (by omega) ?_ | refine VV.shl rfl ⟨by omega, by omega⟩ ?_ | refine VV.shr rfl ⟨by omega, by omega⟩ ?_ | refine VV.and rfl ?_ | refine VV.div rfl ⟨by omega, by omega, by omega⟩ ?_ | refine VV.rem rfl ⟨by omega, by omega, by omega⟩ ?_ | refine VV.s rfl ?_  | refine VV.b (b_ltT (by omega) (by omega)) ?_ | refine VV.b (b_ltF (by omega) (by omega)) ?_ | refine VV.b (b_geT (by omega) (by omega)) ?_ | refine VV.b (b_geF (by omega) (by omega)) ?_ | refine VV.b (b_gtT (by omega) (by omega)) ?_ | refine VV.b (b_gtF (by omega) (by omega)) ?_ | refine VV.b (b_leT (by omega) (by omega)) ?_ | refine VV.b (b_leF (by omega) (by omega)) ?_ | refine VV.b (b_eqT (by omega) (by omega)) ?_ | refine VV.b (b_eqF (by omega) (by omega)) ?_ | refine VV.b (b_neT (by omega) (by omega)) ?_ | refine VV.b (b_neF (by omega) (by omega)) ?_)
    exact VV.r rfl (q τ A B h FX.refl)
  | true =>
    rw [hb, if_pos rfl] at q
    obtain ⟨R, C, e1, e2, r1, r2, c1, c2, rc⟩ := mnB_spec h4 hb
    subst e1 e2
    rw [nI_clamp (by omega), nI_clamp (by omega), ← lgv (m := s.c.m 1) h4 (fun k hk => i.c.ck k hk) (s.c.m 1) (Nat.le_refl _) R C (by omega) (by omega) rc] at q
    show VV _ _ _ _ [.int (nI 1)] _ _
    repeat (first | refine VV.add rfl ?_ | refine VV.inc rfl rfl rfl ?_ | refine VV.mul rfl ?_ | refine VV.sub rfl (by omega) ?_ | refine VV.shl1 rfl (by omega) ?_ | refine VV.shl rfl ⟨by omega, by omega⟩ ?_ | refine VV.shr rfl ⟨by omega, by omega⟩ ?_ | refine VV.and rfl ?_ | refine VV.div rfl ⟨by omega, by omega, by omega⟩ ?_ | refine VV.rem rfl ⟨by omega, by omega, by omega⟩ ?_ | refine VV.s rfl ?_  | refine VV.b (b_ltT (by omega) (by omega)) ?_ | refine VV.b (b_ltF (by omega) (by omega)) ?_ | refine VV.b (b_geT (by omega) (by omega)) ?_ | refine VV.b (b_geF (by omega) (by omega)) ?_ | refine VV.b (b_gtT (by omega) (by omega)) ?_ | refine VV.b (b_gtF (by omega) (by omega)) ?_ | refine VV.b (b_leT (by omega) (by omega)) ?_ | refine VV.b (b_leF (by omega) (by omega)) ?_ | refine VV.b (b_eqT (by omega) (by omega)) ?_ | refine VV.b (b_eqF (by omega) (by omega)) ?_ | refine VV.b (b_neT (by omega) (by omega)) ?_ | refine VV.b (b_neF (by omega) (by omega)) ?_)
    (refine VV.c rfl ?_; refine cx_mult i.c h.now (fun E hE => ?_))
    repeat refine VV.s rfl ?_
    have eB : up (up B 33 E) 34 (up B 33 E 34) = up B 33 E := up_id _ _
    rw [← eB]
    (refine VV.c rfl ?_; refine c_detP (g := 32) rfl (up_s _ _ _) h4 r2 c2 rc (fun f => ?_))
    rw [show mnr (up B 33 E (32 + 1)) R C = mnr (pst (s.c.r 1) (s.c.m 1)) R C from mnr_congr h4 r2 c2 hE]
    have f2 : FN τ A B (up τ 3202 (nI s.c.n)) A (up (up B 33 E) 34 f) := FN.ut (by decide) (FN.ub (by decide) (FN.ub (by decide) FN.refl))
    exact VV.r rfl (q _ _ _ (h.fn (c := s.c) f2 (RS.mk h.now.n h.now.E h.now.V h.now.chip h.now.note h.now.seen h.now.event h.now.book)) f2.fx)
theorem x_paths (i : IV s) {x y : Int32} : KXJ (d + 5) M_T_paths [.ref 1, .int x, .int y] s (oPaths s x y) := by
  intro S τ A B Q h q
  unfold oPaths at q
  have hn : τ (100 * 3 + 2) = nI s.c.n := h.now.n
  have h4 := i.c.n4
  have hcm := i.c.cm
  have hm : τ (100 * 6 + 2) = nI (s.c.m 1) := h.now.chip.h
  have hp : 2 ^ s.c.n ≤ 2 ^ 4 := Nat.pow_le_pow_right (by omega) h4
  refine CC.of rfl ?_
  repeat refine VV.s rfl ?_
  (refine VV.c rfl ?_; refine c_hasMinor (g := 3) rfl hn h4 ?_)
  cases hb : mnB s.c.n x y with
  | false =>
    rw [hb] at q
    repeat (first | refine VV.add rfl ?_ | refine VV.inc rfl rfl rfl ?_ | refine VV.mul rfl ?_ | refine VV.sub rfl (by omega) ?_ | refine VV.shl1 rfl (by omega) ?_ | refine VV.shl rfl ⟨by omega, by omega⟩ ?_ | refine VV.shr rfl ⟨by omega, by omega⟩ ?_ | refine VV.and rfl ?_ | refine VV.div rfl ⟨by omega, by omega, by omega⟩ ?_ | refine VV.rem rfl ⟨by omega, by omega, by omega⟩ ?_ | refine VV.s rfl ?_  | refine VV.b (b_ltT (by omega) (by omega)) ?_ | refine VV.b (b_ltF (by omega) (by omega)) ?_ | refine VV.b (b_geT (by omega) (by omega)) ?_ | refine VV.b (b_geF (by omega) (by omega)) ?_ | refine VV.b (b_gtT (by omega) (by omega)) ?_ | refine VV.b (b_gtF (by omega) (by omega)) ?_ | refine VV.b (b_leT (by omega) (by omega)) ?_ | refine VV.b (b_leF (by omega) (by omega)) ?_ | refine VV.b (b_eqT (by omega) (by omega)) ?_ | refine VV.b (b_eqF (by omega) (by omega)) ?_ | refine VV.b (b_neT (by omega) (by omega)) ?_ | refine VV.b (b_neF (by omega) (by omega)) ?_)
    exact VV.r rfl (q τ A B h FX.refl)
  | true =>
    rw [hb, if_pos rfl] at q
    obtain ⟨R, C, e1, e2, r1, r2, c1, c2, rc⟩ := mnB_spec h4 hb
    subst e1 e2
    rw [nI_clamp (by omega), nI_clamp (by omega)] at q
    show VV _ _ _ _ [.int (nI 1)] _ _
    repeat (first | refine VV.add rfl ?_ | refine VV.inc rfl rfl rfl ?_ | refine VV.mul rfl ?_ | refine VV.sub rfl (by omega) ?_ | refine VV.shl1 rfl (by omega) ?_ | refine VV.shl rfl ⟨by omega, by omega⟩ ?_ | refine VV.shr rfl ⟨by omega, by omega⟩ ?_ | refine VV.and rfl ?_ | refine VV.div rfl ⟨by omega, by omega, by omega⟩ ?_ | refine VV.rem rfl ⟨by omega, by omega, by omega⟩ ?_ | refine VV.s rfl ?_  | refine VV.b (b_ltT (by omega) (by omega)) ?_ | refine VV.b (b_ltF (by omega) (by omega)) ?_ | refine VV.b (b_geT (by omega) (by omega)) ?_ | refine VV.b (b_geF (by omega) (by omega)) ?_ | refine VV.b (b_gtT (by omega) (by omega)) ?_ | refine VV.b (b_gtF (by omega) (by omega)) ?_ | refine VV.b (b_leT (by omega) (by omega)) ?_ | refine VV.b (b_leF (by omega) (by omega)) ?_ | refine VV.b (b_eqT (by omega) (by omega)) ?_ | refine VV.b (b_eqF (by omega) (by omega)) ?_ | refine VV.b (b_neT (by omega) (by omega)) ?_ | refine VV.b (b_neF (by omega) (by omega)) ?_)
    (refine VV.c rfl ?_; refine c_fill (a := 43) rfl (fun W0 hW0 => ?_))
    repeat refine VV.s rfl ?_
    (refine VV.c rfl ?_; refine cw_putWays (show R < 16 by omega) ?_)
    rw [up_up, up_s]
    have V := VV.inv (fun k (W : Nat → Int64) => ∀ t, t < 16 → W t = wst (s.c.r 1) R k t) (fun k W => VV (d + 5) M_T_paths 35 [some (.ref 1), some (.int (nI R)), some (.int (nI C)), some (.int (nI k))] [] (HH S τ A (up B 43 W)) Q) (s.c.m 1) ?_ ?_ (s.c.m 1) 0 (up W0 R (lN 1)) (by omega) (fun t ht => by
      show _ = if t = R then 1 else 0
      by_cases e : t = R
      · rw [e, up_s, if_pos rfl]; rfl
      · rw [up_n e, if_neg e]; exact hW0 t ht)
    · repeat (first | exact V | refine VV.add rfl ?_ | refine VV.inc rfl rfl rfl ?_ | refine VV.mul rfl ?_ | refine VV.sub rfl (by omega) ?_ | refine VV.shl1 rfl (by omega) ?_ | refine VV.shl rfl ⟨by omega, by omega⟩ ?_ | refine VV.shr rfl ⟨by omega, by omega⟩ ?_ | refine VV.and rfl ?_ | refine VV.div rfl ⟨by omega, by omega, by omega⟩ ?_ | refine VV.rem rfl ⟨by omega, by omega, by omega⟩ ?_ | refine VV.s rfl ?_  | refine VV.b (b_ltT (by omega) (by omega)) ?_ | refine VV.b (b_ltF (by omega) (by omega)) ?_ | refine VV.b (b_geT (by omega) (by omega)) ?_ | refine VV.b (b_geF (by omega) (by omega)) ?_ | refine VV.b (b_gtT (by omega) (by omega)) ?_ | refine VV.b (b_gtF (by omega) (by omega)) ?_ | refine VV.b (b_leT (by omega) (by omega)) ?_ | refine VV.b (b_leF (by omega) (by omega)) ?_ | refine VV.b (b_eqT (by omega) (by omega)) ?_ | refine VV.b (b_eqF (by omega) (by omega)) ?_ | refine VV.b (b_neT (by omega) (by omega)) ?_ | refine VV.b (b_neF (by omega) (by omega)) ?_)
    · intro k W hk hI nxt
      obtain ⟨a, l, v, e0, e1, e2, hc⟩ := i.c.ck k hk
      have hc : chOk s.c.n a l v := hc
      have hl4 : l < 4 := by
        have := hc.2.1
        by_cases c2 : a = 2
        · rw [if_pos c2] at this; omega
        · rw [if_neg c2] at this; omega
      have ha := hc.1
      have v1 := hc.2.2
      repeat (first | refine VV.add rfl ?_ | refine VV.inc rfl rfl rfl ?_ | refine VV.mul rfl ?_ | refine VV.sub rfl (by omega) ?_ | refine VV.shl1 rfl (by omega) ?_ | refine VV.shl rfl ⟨by omega, by omega⟩ ?_ | refine VV.shr rfl ⟨by omega, by omega⟩ ?_ | refine VV.and rfl ?_ | refine VV.div rfl ⟨by omega, by omega, by omega⟩ ?_ | refine VV.rem rfl ⟨by omega, by omega, by omega⟩ ?_ | refine VV.s rfl ?_  | refine VV.b (b_ltT (by omega) (by omega)) ?_ | refine VV.b (b_ltF (by omega) (by omega)) ?_ | refine VV.b (b_geT (by omega) (by omega)) ?_ | refine VV.b (b_geF (by omega) (by omega)) ?_ | refine VV.b (b_gtT (by omega) (by omega)) ?_ | refine VV.b (b_gtF (by omega) (by omega)) ?_ | refine VV.b (b_leT (by omega) (by omega)) ?_ | refine VV.b (b_leF (by omega) (by omega)) ?_ | refine VV.b (b_eqT (by omega) (by omega)) ?_ | refine VV.b (b_eqF (by omega) (by omega)) ?_ | refine VV.b (b_neT (by omega) (by omega)) ?_ | refine VV.b (b_neF (by omega) (by omega)) ?_)
      (refine VV.c rfl ?_; refine cr_held (o := 6) rfl hm ?_)
      repeat (first | refine VV.add rfl ?_ | refine VV.inc rfl rfl rfl ?_ | refine VV.mul rfl ?_ | refine VV.sub rfl (by omega) ?_ | refine VV.shl1 rfl (by omega) ?_ | refine VV.shl rfl ⟨by omega, by omega⟩ ?_ | refine VV.shr rfl ⟨by omega, by omega⟩ ?_ | refine VV.and rfl ?_ | refine VV.div rfl ⟨by omega, by omega, by omega⟩ ?_ | refine VV.rem rfl ⟨by omega, by omega, by omega⟩ ?_ | refine VV.s rfl ?_  | refine VV.b (b_ltT (by omega) (by omega)) ?_ | refine VV.b (b_ltF (by omega) (by omega)) ?_ | refine VV.b (b_geT (by omega) (by omega)) ?_ | refine VV.b (b_geF (by omega) (by omega)) ?_ | refine VV.b (b_gtT (by omega) (by omega)) ?_ | refine VV.b (b_gtF (by omega) (by omega)) ?_ | refine VV.b (b_leT (by omega) (by omega)) ?_ | refine VV.b (b_leF (by omega) (by omega)) ?_ | refine VV.b (b_eqT (by omega) (by omega)) ?_ | refine VV.b (b_eqF (by omega) (by omega)) ?_ | refine VV.b (b_neT (by omega) (by omega)) ?_ | refine VV.b (b_neF (by omega) (by omega)) ?_)
      (refine VV.c rfl ?_; refine cr_cell (o := 6) (w := 0) rfl hm hcm hk (by omega) ?_)
      rw [show A (6 + 1) (3 * k + 0) = nI a from (h.now.chip.r k 0 hk (by omega)).trans e0]
      repeat (first | refine VV.add rfl ?_ | refine VV.inc rfl rfl rfl ?_ | refine VV.mul rfl ?_ | refine VV.sub rfl (by omega) ?_ | refine VV.shl1 rfl (by omega) ?_ | refine VV.shl rfl ⟨by omega, by omega⟩ ?_ | refine VV.shr rfl ⟨by omega, by omega⟩ ?_ | refine VV.and rfl ?_ | refine VV.div rfl ⟨by omega, by omega, by omega⟩ ?_ | refine VV.rem rfl ⟨by omega, by omega, by omega⟩ ?_ | refine VV.s rfl ?_  | refine VV.b (b_ltT (by omega) (by omega)) ?_ | refine VV.b (b_ltF (by omega) (by omega)) ?_ | refine VV.b (b_geT (by omega) (by omega)) ?_ | refine VV.b (b_geF (by omega) (by omega)) ?_ | refine VV.b (b_gtT (by omega) (by omega)) ?_ | refine VV.b (b_gtF (by omega) (by omega)) ?_ | refine VV.b (b_leT (by omega) (by omega)) ?_ | refine VV.b (b_leF (by omega) (by omega)) ?_ | refine VV.b (b_eqT (by omega) (by omega)) ?_ | refine VV.b (b_eqF (by omega) (by omega)) ?_ | refine VV.b (b_neT (by omega) (by omega)) ?_ | refine VV.b (b_neF (by omega) (by omega)) ?_)
      (refine VV.c rfl ?_; refine cr_cell (o := 6) (w := 1) rfl hm hcm hk (by omega) ?_)
      rw [show A (6 + 1) (3 * k + 1) = nI l from (h.now.chip.r k 1 hk (by omega)).trans e1]
      repeat (first | refine VV.add rfl ?_ | refine VV.inc rfl rfl rfl ?_ | refine VV.mul rfl ?_ | refine VV.sub rfl (by omega) ?_ | refine VV.shl1 rfl (by omega) ?_ | refine VV.shl rfl ⟨by omega, by omega⟩ ?_ | refine VV.shr rfl ⟨by omega, by omega⟩ ?_ | refine VV.and rfl ?_ | refine VV.div rfl ⟨by omega, by omega, by omega⟩ ?_ | refine VV.rem rfl ⟨by omega, by omega, by omega⟩ ?_ | refine VV.s rfl ?_  | refine VV.b (b_ltT (by omega) (by omega)) ?_ | refine VV.b (b_ltF (by omega) (by omega)) ?_ | refine VV.b (b_geT (by omega) (by omega)) ?_ | refine VV.b (b_geF (by omega) (by omega)) ?_ | refine VV.b (b_gtT (by omega) (by omega)) ?_ | refine VV.b (b_gtF (by omega) (by omega)) ?_ | refine VV.b (b_leT (by omega) (by omega)) ?_ | refine VV.b (b_leF (by omega) (by omega)) ?_ | refine VV.b (b_eqT (by omega) (by omega)) ?_ | refine VV.b (b_eqF (by omega) (by omega)) ?_ | refine VV.b (b_neT (by omega) (by omega)) ?_ | refine VV.b (b_neF (by omega) (by omega)) ?_)
      (refine VV.c rfl ?_; refine cr_cell (o := 6) (w := 2) rfl hm hcm hk (by omega) ?_)
      rw [show A (6 + 1) (3 * k + 2) = nI v from (h.now.chip.r k 2 hk (by omega)).trans e2]
      repeat (first | refine VV.add rfl ?_ | refine VV.inc rfl rfl rfl ?_ | refine VV.mul rfl ?_ | refine VV.sub rfl (by omega) ?_ | refine VV.shl1 rfl (by omega) ?_ | refine VV.shl rfl ⟨by omega, by omega⟩ ?_ | refine VV.shr rfl ⟨by omega, by omega⟩ ?_ | refine VV.and rfl ?_ | refine VV.div rfl ⟨by omega, by omega, by omega⟩ ?_ | refine VV.rem rfl ⟨by omega, by omega, by omega⟩ ?_ | refine VV.s rfl ?_  | refine VV.b (b_ltT (by omega) (by omega)) ?_ | refine VV.b (b_ltF (by omega) (by omega)) ?_ | refine VV.b (b_geT (by omega) (by omega)) ?_ | refine VV.b (b_geF (by omega) (by omega)) ?_ | refine VV.b (b_gtT (by omega) (by omega)) ?_ | refine VV.b (b_gtF (by omega) (by omega)) ?_ | refine VV.b (b_leT (by omega) (by omega)) ?_ | refine VV.b (b_leF (by omega) (by omega)) ?_ | refine VV.b (b_eqT (by omega) (by omega)) ?_ | refine VV.b (b_eqF (by omega) (by omega)) ?_ | refine VV.b (b_neT (by omega) (by omega)) ?_ | refine VV.b (b_neF (by omega) (by omega)) ?_)
      (refine VV.c rfl ?_; refine cx_walk h4 hc (fun W2 hW2 => ?_))
      rw [up_up]
      have hf := ab_lt h4 hc
      have := nxt W2 (fun t ht => by
        rw [hW2 t ht, wst, e0, e1, e2, nI_clamp (by omega), nI_clamp (by omega), nI_clamp (by omega), up_s]
        by_cases c2 : a = 2
        · subst c2
          rw [wst1_2, wst1_2, hI t ht]
        · rw [wst1_n c2, wst1_n c2, hI t ht]
          by_cases c3 : t / 2 ^ bL a l % 2 = 1 ∧ t / 2 ^ aL a l % 2 = 0
          · rw [if_pos c3, if_pos c3, hI _ (t_mv3 ht (show aL a l < 4 by omega) (show bL a l < 4 by omega) (ab_ne c2 ha) c3.1 c3.2).1]
          · rw [if_neg c3, if_neg c3])
      repeat (first | exact this | refine VV.add rfl ?_ | refine VV.inc rfl rfl rfl ?_ | refine VV.mul rfl ?_ | refine VV.sub rfl (by omega) ?_ | refine VV.shl1 rfl (by omega) ?_ | refine VV.shl rfl ⟨by omega, by omega⟩ ?_ | refine VV.shr rfl ⟨by omega, by omega⟩ ?_ | refine VV.and rfl ?_ | refine VV.div rfl ⟨by omega, by omega, by omega⟩ ?_ | refine VV.rem rfl ⟨by omega, by omega, by omega⟩ ?_ | refine VV.s rfl ?_  | refine VV.b (b_ltT (by omega) (by omega)) ?_ | refine VV.b (b_ltF (by omega) (by omega)) ?_ | refine VV.b (b_geT (by omega) (by omega)) ?_ | refine VV.b (b_geF (by omega) (by omega)) ?_ | refine VV.b (b_gtT (by omega) (by omega)) ?_ | refine VV.b (b_gtF (by omega) (by omega)) ?_ | refine VV.b (b_leT (by omega) (by omega)) ?_ | refine VV.b (b_leF (by omega) (by omega)) ?_ | refine VV.b (b_eqT (by omega) (by omega)) ?_ | refine VV.b (b_eqF (by omega) (by omega)) ?_ | refine VV.b (b_neT (by omega) (by omega)) ?_ | refine VV.b (b_neF (by omega) (by omega)) ?_)
    · intro W hI
      rw [← hI C (by omega)] at q
      repeat (first | refine VV.add rfl ?_ | refine VV.inc rfl rfl rfl ?_ | refine VV.mul rfl ?_ | refine VV.sub rfl (by omega) ?_ | refine VV.shl1 rfl (by omega) ?_ | refine VV.shl rfl ⟨by omega, by omega⟩ ?_ | refine VV.shr rfl ⟨by omega, by omega⟩ ?_ | refine VV.and rfl ?_ | refine VV.div rfl ⟨by omega, by omega, by omega⟩ ?_ | refine VV.rem rfl ⟨by omega, by omega, by omega⟩ ?_ | refine VV.s rfl ?_  | refine VV.b (b_ltT (by omega) (by omega)) ?_ | refine VV.b (b_ltF (by omega) (by omega)) ?_ | refine VV.b (b_geT (by omega) (by omega)) ?_ | refine VV.b (b_geF (by omega) (by omega)) ?_ | refine VV.b (b_gtT (by omega) (by omega)) ?_ | refine VV.b (b_gtF (by omega) (by omega)) ?_ | refine VV.b (b_leT (by omega) (by omega)) ?_ | refine VV.b (b_leF (by omega) (by omega)) ?_ | refine VV.b (b_eqT (by omega) (by omega)) ?_ | refine VV.b (b_eqF (by omega) (by omega)) ?_ | refine VV.b (b_neT (by omega) (by omega)) ?_ | refine VV.b (b_neF (by omega) (by omega)) ?_)
      (refine VV.c rfl ?_; refine cr_held (o := 6) rfl hm ?_)
      repeat (first | refine VV.add rfl ?_ | refine VV.inc rfl rfl rfl ?_ | refine VV.mul rfl ?_ | refine VV.sub rfl (by omega) ?_ | refine VV.shl1 rfl (by omega) ?_ | refine VV.shl rfl ⟨by omega, by omega⟩ ?_ | refine VV.shr rfl ⟨by omega, by omega⟩ ?_ | refine VV.and rfl ?_ | refine VV.div rfl ⟨by omega, by omega, by omega⟩ ?_ | refine VV.rem rfl ⟨by omega, by omega, by omega⟩ ?_ | refine VV.s rfl ?_  | refine VV.b (b_ltT (by omega) (by omega)) ?_ | refine VV.b (b_ltF (by omega) (by omega)) ?_ | refine VV.b (b_geT (by omega) (by omega)) ?_ | refine VV.b (b_geF (by omega) (by omega)) ?_ | refine VV.b (b_gtT (by omega) (by omega)) ?_ | refine VV.b (b_gtF (by omega) (by omega)) ?_ | refine VV.b (b_leT (by omega) (by omega)) ?_ | refine VV.b (b_leF (by omega) (by omega)) ?_ | refine VV.b (b_eqT (by omega) (by omega)) ?_ | refine VV.b (b_eqF (by omega) (by omega)) ?_ | refine VV.b (b_neT (by omega) (by omega)) ?_ | refine VV.b (b_neF (by omega) (by omega)) ?_)
      (refine VV.c rfl ?_; refine cw_waysTo (show C < 16 by omega) ?_)
      rw [up_s]
      exact VV.r rfl (q _ _ _ (h.fn (c := s.c) (FN.ub (by decide) FN.refl) (RS.mk h.now.n h.now.E h.now.V h.now.chip h.now.note h.now.seen h.now.event h.now.book)) (FX.ub (by decide) FX.refl))
theorem le99 {x : Int64} : ¬ lN 99 < x ↔ x ≤ lN 99 := by
  rw [Int64.le_iff_toInt_le, Int64.lt_iff_toInt_lt]
  omega
theorem x_take (i : IV s) : KX (d + 5) M_T_take [.ref 1] s (oTake s) := by
  intro S τ A B Q h q
  unfold oTake at q
  have hn : τ (100 * 3 + 2) = nI s.c.n := h.now.n
  have h4 := i.c.n4
  have h2 := i.c.n2
  refine CC.of rfl ?_
  repeat refine VV.s rfl ?_
  (refine VV.c rfl ?_; refine cx_mult i.c h.now (fun E hE => ?_))
  repeat refine VV.s rfl ?_
  (refine VV.c rfl ?_; refine c_greatest (g := 32) rfl (up_s _ _ _) h4 (by omega) (fun m hm1 hm2 => ?_))
  repeat refine VV.s rfl ?_
  refine VV.cle (fun c => ?_) (fun c => ?_)
  · have no : tkB (prodE s.c) s.c.n = false := by
      cases hb : tkB (prodE s.c) s.c.n with
      | false => rfl
      | true =>
        obtain ⟨a, b, ha, hb2, e⟩ := hm2
        have := tkB_t.mp hb a b ha hb2
        rw [← hE a b ha hb2] at this
        rw [e] at c
        exact absurd c (le99.mpr this)
    rw [no] at q
    repeat refine VV.s rfl ?_
    exact VV.r rfl (q _ _ _ (h.fn (c := s.c) (FN.pr _ _) (RS.mk h.now.n h.now.E h.now.V h.now.chip h.now.note h.now.seen h.now.event h.now.book)) (FN.pr _ _).fx)
  · have yes : tkB (prodE s.c) s.c.n = true := tkB_t.mpr (fun a b ha hb => by
      rw [← hE a b ha hb]
      exact Int64.le_trans (hm1 a b ha hb) (le99.mp c))
    rw [yes, if_pos rfl] at q
    repeat refine VV.s rfl ?_
    (refine VV.c rfl ?_; refine c_copyFrom (g := 3) (o := 32) rfl rfl (by decide) (up_s _ _ _) h4 (fun E2 hE2 => ?_))
    repeat refine VV.s rfl ?_
    (refine VV.c rfl ?_; refine cr_empty (o := 9) rfl ?_)
    repeat refine VV.s rfl ?_
    have f : FN τ A B (up (up (up τ 3202 (nI s.c.n)) (100 * 3 + 2) (nI s.c.n)) (100 * 9 + 2) (nI 0)) A (up (up B 33 E) (3 + 1) E2) := FN.ut (by decide) (FN.ut (by decide) (FN.ut (by decide) (FN.ub (by decide) (FN.ub (by decide) FN.refl))))
    refine VV.r rfl (q _ _ _ (h.fn f (RS.mk (rfl) (fun a b ha hb => ?_) h.now.V h.now.chip (⟨rfl, fun k w hk _ => absurd hk (Nat.not_lt_zero k)⟩) h.now.seen h.now.event h.now.book)) f.fx)
    exact (hE2 a b ha hb).trans (hE a b ha hb)
theorem x_after (i : IV s) {w : Int32} : KXJ (d + 6) M_T_after [.ref 1, .int w] s (oAfter s w) := by
  intro S τ A B Q h q
  unfold oAfter at q
  have hn : τ (100 * 3 + 2) = nI s.c.n := h.now.n
  have h4 := i.c.n4
  have h2 := i.c.n2
  have hem := i.c.em
  have hp : 2 ^ s.c.n ≤ 2 ^ 4 := Nat.pow_le_pow_right (by omega) h4
  have hp0 : 0 < 2 ^ s.c.n := Nat.two_pow_pos s.c.n
  refine CC.of rfl ?_
  refine VV.s rfl ?_
  refine VV.s rfl ?_
  refine VV.i (fun c1 => ?_) (fun c1 => ?_)
  · rw [rgB_lo (show w < nI 0 from c1)] at q
    repeat refine VV.s rfl ?_
    exact VV.r rfl (q τ A B h FX.refl)
  refine VV.s rfl ?_
  refine VV.s rfl ?_
  refine VV.s rfl ?_
  refine VV.i (fun c2 => ?_) (fun c2 => ?_)
  · rw [rgB_hi c2] at q
    repeat refine VV.s rfl ?_
    exact VV.r rfl (q τ A B h FX.refl)
  rw [rgB_in (show ¬ w < nI 0 from c1) c2, if_pos rfl] at q
  repeat refine VV.s rfl ?_
  (refine VV.c rfl ?_; refine c_copyFrom (g := 32) (o := 3) rfl rfl (by decide) hn h4 (fun E0 hE0 => ?_))
  have hm2 : up τ (100 * 32 + 2) (nI s.c.n) (100 * 13 + 2) = nI (s.c.m 4) := h.now.event.h
  have V := VV.inv (fun k (E : Nat → Int64) => ∀ i j, i < s.c.n → j < s.c.n → E (4 * i + j) = aftE s.c.n (s.c.r 4) s.c.E k (4 * i + j)) (fun k E => VV (d + 6) M_T_after 29 [some (.ref 1), some (.int w), some (.int (nI k))] [] (HH S (up τ (100 * 32 + 2) (nI s.c.n)) A (up B 33 E)) Q) (s.c.m 4) ?_ ?_ (s.c.m 4) 0 E0 (by omega) (fun a b ha hb => (hE0 a b ha hb).trans (h.now.E a b ha hb))
  · repeat (first | exact V | refine VV.add rfl ?_ | refine VV.inc rfl rfl rfl ?_ | refine VV.mul rfl ?_ | refine VV.sub rfl (by omega) ?_ | refine VV.shl1 rfl (by omega) ?_ | refine VV.shl rfl ⟨by omega, by omega⟩ ?_ | refine VV.shr rfl ⟨by omega, by omega⟩ ?_ | refine VV.and rfl ?_ | refine VV.div rfl ⟨by omega, by omega, by omega⟩ ?_ | refine VV.rem rfl ⟨by omega, by omega, by omega⟩ ?_ | refine VV.s rfl ?_  | refine VV.b (b_ltT (by omega) (by omega)) ?_ | refine VV.b (b_ltF (by omega) (by omega)) ?_ | refine VV.b (b_geT (by omega) (by omega)) ?_ | refine VV.b (b_geF (by omega) (by omega)) ?_ | refine VV.b (b_gtT (by omega) (by omega)) ?_ | refine VV.b (b_gtF (by omega) (by omega)) ?_ | refine VV.b (b_leT (by omega) (by omega)) ?_ | refine VV.b (b_leF (by omega) (by omega)) ?_ | refine VV.b (b_eqT (by omega) (by omega)) ?_ | refine VV.b (b_eqF (by omega) (by omega)) ?_ | refine VV.b (b_neT (by omega) (by omega)) ?_ | refine VV.b (b_neF (by omega) (by omega)) ?_)
  · intro k E hk hI nxt
    obtain ⟨a, e0, he⟩ := i.c.ev k hk
    have he : evOk a (s.c.r 4 k 1) := he
    have ha := he.1
    repeat (first | refine VV.add rfl ?_ | refine VV.inc rfl rfl rfl ?_ | refine VV.mul rfl ?_ | refine VV.sub rfl (by omega) ?_ | refine VV.shl1 rfl (by omega) ?_ | refine VV.shl rfl ⟨by omega, by omega⟩ ?_ | refine VV.shr rfl ⟨by omega, by omega⟩ ?_ | refine VV.and rfl ?_ | refine VV.div rfl ⟨by omega, by omega, by omega⟩ ?_ | refine VV.rem rfl ⟨by omega, by omega, by omega⟩ ?_ | refine VV.s rfl ?_  | refine VV.b (b_ltT (by omega) (by omega)) ?_ | refine VV.b (b_ltF (by omega) (by omega)) ?_ | refine VV.b (b_geT (by omega) (by omega)) ?_ | refine VV.b (b_geF (by omega) (by omega)) ?_ | refine VV.b (b_gtT (by omega) (by omega)) ?_ | refine VV.b (b_gtF (by omega) (by omega)) ?_ | refine VV.b (b_leT (by omega) (by omega)) ?_ | refine VV.b (b_leF (by omega) (by omega)) ?_ | refine VV.b (b_eqT (by omega) (by omega)) ?_ | refine VV.b (b_eqF (by omega) (by omega)) ?_ | refine VV.b (b_neT (by omega) (by omega)) ?_ | refine VV.b (b_neF (by omega) (by omega)) ?_)
    (refine VV.c rfl ?_; refine cr_held (o := 13) rfl hm2 ?_)
    repeat (first | refine VV.add rfl ?_ | refine VV.inc rfl rfl rfl ?_ | refine VV.mul rfl ?_ | refine VV.sub rfl (by omega) ?_ | refine VV.shl1 rfl (by omega) ?_ | refine VV.shl rfl ⟨by omega, by omega⟩ ?_ | refine VV.shr rfl ⟨by omega, by omega⟩ ?_ | refine VV.and rfl ?_ | refine VV.div rfl ⟨by omega, by omega, by omega⟩ ?_ | refine VV.rem rfl ⟨by omega, by omega, by omega⟩ ?_ | refine VV.s rfl ?_  | refine VV.b (b_ltT (by omega) (by omega)) ?_ | refine VV.b (b_ltF (by omega) (by omega)) ?_ | refine VV.b (b_geT (by omega) (by omega)) ?_ | refine VV.b (b_geF (by omega) (by omega)) ?_ | refine VV.b (b_gtT (by omega) (by omega)) ?_ | refine VV.b (b_gtF (by omega) (by omega)) ?_ | refine VV.b (b_leT (by omega) (by omega)) ?_ | refine VV.b (b_leF (by omega) (by omega)) ?_ | refine VV.b (b_eqT (by omega) (by omega)) ?_ | refine VV.b (b_eqF (by omega) (by omega)) ?_ | refine VV.b (b_neT (by omega) (by omega)) ?_ | refine VV.b (b_neF (by omega) (by omega)) ?_)
    (refine VV.c rfl ?_; refine cr_cell (o := 13) (w := 0) rfl hm2 hem hk (by omega) ?_)
    rw [show A (13 + 1) (3 * k + 0) = nI a from (h.now.event.r k 0 hk (by omega)).trans e0]
    repeat (first | refine VV.add rfl ?_ | refine VV.inc rfl rfl rfl ?_ | refine VV.mul rfl ?_ | refine VV.sub rfl (by omega) ?_ | refine VV.shl1 rfl (by omega) ?_ | refine VV.shl rfl ⟨by omega, by omega⟩ ?_ | refine VV.shr rfl ⟨by omega, by omega⟩ ?_ | refine VV.and rfl ?_ | refine VV.div rfl ⟨by omega, by omega, by omega⟩ ?_ | refine VV.rem rfl ⟨by omega, by omega, by omega⟩ ?_ | refine VV.s rfl ?_  | refine VV.b (b_ltT (by omega) (by omega)) ?_ | refine VV.b (b_ltF (by omega) (by omega)) ?_ | refine VV.b (b_geT (by omega) (by omega)) ?_ | refine VV.b (b_geF (by omega) (by omega)) ?_ | refine VV.b (b_gtT (by omega) (by omega)) ?_ | refine VV.b (b_gtF (by omega) (by omega)) ?_ | refine VV.b (b_leT (by omega) (by omega)) ?_ | refine VV.b (b_leF (by omega) (by omega)) ?_ | refine VV.b (b_eqT (by omega) (by omega)) ?_ | refine VV.b (b_eqF (by omega) (by omega)) ?_ | refine VV.b (b_neT (by omega) (by omega)) ?_ | refine VV.b (b_neF (by omega) (by omega)) ?_)
    (refine VV.c rfl ?_; refine cr_cell (o := 13) (w := 1) rfl hm2 hem hk (by omega) ?_)
    rw [show A (13 + 1) (3 * k + 1) = s.c.r 4 k 1 from h.now.event.r k 1 hk (by omega)]
    repeat (first | refine VV.add rfl ?_ | refine VV.inc rfl rfl rfl ?_ | refine VV.mul rfl ?_ | refine VV.sub rfl (by omega) ?_ | refine VV.shl1 rfl (by omega) ?_ | refine VV.shl rfl ⟨by omega, by omega⟩ ?_ | refine VV.shr rfl ⟨by omega, by omega⟩ ?_ | refine VV.and rfl ?_ | refine VV.div rfl ⟨by omega, by omega, by omega⟩ ?_ | refine VV.rem rfl ⟨by omega, by omega, by omega⟩ ?_ | refine VV.s rfl ?_  | refine VV.b (b_ltT (by omega) (by omega)) ?_ | refine VV.b (b_ltF (by omega) (by omega)) ?_ | refine VV.b (b_geT (by omega) (by omega)) ?_ | refine VV.b (b_geF (by omega) (by omega)) ?_ | refine VV.b (b_gtT (by omega) (by omega)) ?_ | refine VV.b (b_gtF (by omega) (by omega)) ?_ | refine VV.b (b_leT (by omega) (by omega)) ?_ | refine VV.b (b_leF (by omega) (by omega)) ?_ | refine VV.b (b_eqT (by omega) (by omega)) ?_ | refine VV.b (b_eqF (by omega) (by omega)) ?_ | refine VV.b (b_neT (by omega) (by omega)) ?_ | refine VV.b (b_neF (by omega) (by omega)) ?_)
    (refine VV.c rfl ?_; refine cx_happen (n := s.c.n) (up_s _ _ _) h4 (by omega) he (fun E2 hE2 => ?_))
    rw [up_up]
    have := nxt E2 (fun x y hx hy => by
      rw [hE2 x y hx hy, aftE, e0, nI_clamp (by omega)]
      exact hapE_congr h4 he hI hx hy)
    repeat (first | exact this | refine VV.add rfl ?_ | refine VV.inc rfl rfl rfl ?_ | refine VV.mul rfl ?_ | refine VV.sub rfl (by omega) ?_ | refine VV.shl1 rfl (by omega) ?_ | refine VV.shl rfl ⟨by omega, by omega⟩ ?_ | refine VV.shr rfl ⟨by omega, by omega⟩ ?_ | refine VV.and rfl ?_ | refine VV.div rfl ⟨by omega, by omega, by omega⟩ ?_ | refine VV.rem rfl ⟨by omega, by omega, by omega⟩ ?_ | refine VV.s rfl ?_  | refine VV.b (b_ltT (by omega) (by omega)) ?_ | refine VV.b (b_ltF (by omega) (by omega)) ?_ | refine VV.b (b_geT (by omega) (by omega)) ?_ | refine VV.b (b_geF (by omega) (by omega)) ?_ | refine VV.b (b_gtT (by omega) (by omega)) ?_ | refine VV.b (b_gtF (by omega) (by omega)) ?_ | refine VV.b (b_leT (by omega) (by omega)) ?_ | refine VV.b (b_leF (by omega) (by omega)) ?_ | refine VV.b (b_eqT (by omega) (by omega)) ?_ | refine VV.b (b_eqF (by omega) (by omega)) ?_ | refine VV.b (b_neT (by omega) (by omega)) ?_ | refine VV.b (b_neF (by omega) (by omega)) ?_)
  · intro E hI
    have fin : ∀ f, RX s (up τ (100 * 32 + 2) (nI s.c.n)) A (up (up B 33 E) 34 f) ∧ FX τ A B (up τ (100 * 32 + 2) (nI s.c.n)) A (up (up B 33 E) 34 f) := fun f => by
      have f2 : FN τ A B (up τ 3202 (nI s.c.n)) A (up (up B 33 E) 34 f) := FN.ut (by decide) (FN.ub (by decide) (FN.ub (by decide) FN.refl))
      exact ⟨h.fn (c := s.c) f2 (RS.mk h.now.n h.now.E h.now.V h.now.chip h.now.note h.now.seen h.now.event h.now.book), f2.fx⟩
    have eB : up (up B 33 E) 34 (up B 33 E 34) = up B 33 E := up_id _ _
    rw [← eB]
    repeat (first | refine VV.add rfl ?_ | refine VV.inc rfl rfl rfl ?_ | refine VV.mul rfl ?_ | refine VV.sub rfl (by omega) ?_ | refine VV.shl1 rfl (by omega) ?_ | refine VV.shl rfl ⟨by omega, by omega⟩ ?_ | refine VV.shr rfl ⟨by omega, by omega⟩ ?_ | refine VV.and rfl ?_ | refine VV.div rfl ⟨by omega, by omega, by omega⟩ ?_ | refine VV.rem rfl ⟨by omega, by omega, by omega⟩ ?_ | refine VV.s rfl ?_  | refine VV.b (b_ltT (by omega) (by omega)) ?_ | refine VV.b (b_ltF (by omega) (by omega)) ?_ | refine VV.b (b_geT (by omega) (by omega)) ?_ | refine VV.b (b_geF (by omega) (by omega)) ?_ | refine VV.b (b_gtT (by omega) (by omega)) ?_ | refine VV.b (b_gtF (by omega) (by omega)) ?_ | refine VV.b (b_leT (by omega) (by omega)) ?_ | refine VV.b (b_leF (by omega) (by omega)) ?_ | refine VV.b (b_eqT (by omega) (by omega)) ?_ | refine VV.b (b_eqF (by omega) (by omega)) ?_ | refine VV.b (b_neT (by omega) (by omega)) ?_ | refine VV.b (b_neF (by omega) (by omega)) ?_)
    (refine VV.c rfl ?_; refine cr_held (o := 13) rfl hm2 ?_)
    repeat (first | refine VV.add rfl ?_ | refine VV.inc rfl rfl rfl ?_ | refine VV.mul rfl ?_ | refine VV.sub rfl (by omega) ?_ | refine VV.shl1 rfl (by omega) ?_ | refine VV.shl rfl ⟨by omega, by omega⟩ ?_ | refine VV.shr rfl ⟨by omega, by omega⟩ ?_ | refine VV.and rfl ?_ | refine VV.div rfl ⟨by omega, by omega, by omega⟩ ?_ | refine VV.rem rfl ⟨by omega, by omega, by omega⟩ ?_ | refine VV.s rfl ?_  | refine VV.b (b_ltT (by omega) (by omega)) ?_ | refine VV.b (b_ltF (by omega) (by omega)) ?_ | refine VV.b (b_geT (by omega) (by omega)) ?_ | refine VV.b (b_geF (by omega) (by omega)) ?_ | refine VV.b (b_gtT (by omega) (by omega)) ?_ | refine VV.b (b_gtF (by omega) (by omega)) ?_ | refine VV.b (b_leT (by omega) (by omega)) ?_ | refine VV.b (b_leF (by omega) (by omega)) ?_ | refine VV.b (b_eqT (by omega) (by omega)) ?_ | refine VV.b (b_eqF (by omega) (by omega)) ?_ | refine VV.b (b_neT (by omega) (by omega)) ?_ | refine VV.b (b_neF (by omega) (by omega)) ?_)
    (refine VV.c rfl ?_; refine c_sets (g := 32) rfl (up_s _ _ _) h4 ?_)
    repeat (first | refine VV.add rfl ?_ | refine VV.inc rfl rfl rfl ?_ | refine VV.mul rfl ?_ | refine VV.sub rfl (by omega) ?_ | refine VV.shl1 rfl (by omega) ?_ | refine VV.shl rfl ⟨by omega, by omega⟩ ?_ | refine VV.shr rfl ⟨by omega, by omega⟩ ?_ | refine VV.and rfl ?_ | refine VV.div rfl ⟨by omega, by omega, by omega⟩ ?_ | refine VV.rem rfl ⟨by omega, by omega, by omega⟩ ?_ | refine VV.s rfl ?_  | refine VV.b (b_ltT (by omega) (by omega)) ?_ | refine VV.b (b_ltF (by omega) (by omega)) ?_ | refine VV.b (b_geT (by omega) (by omega)) ?_ | refine VV.b (b_geF (by omega) (by omega)) ?_ | refine VV.b (b_gtT (by omega) (by omega)) ?_ | refine VV.b (b_gtF (by omega) (by omega)) ?_ | refine VV.b (b_leT (by omega) (by omega)) ?_ | refine VV.b (b_leF (by omega) (by omega)) ?_ | refine VV.b (b_eqT (by omega) (by omega)) ?_ | refine VV.b (b_eqF (by omega) (by omega)) ?_ | refine VV.b (b_neT (by omega) (by omega)) ?_ | refine VV.b (b_neF (by omega) (by omega)) ?_)
    refine VV.i (fun c3 => ?_) (fun c3 => ?_)
    · rw [if_pos (show w = nI 0 from c3)] at q
      repeat refine VV.s rfl ?_
      (refine VV.c rfl ?_; refine c_above (g := 32) rfl (up_s _ _ _) h4 (fun f => ?_))
      repeat refine VV.s rfl ?_
      obtain ⟨rx, fx⟩ := fin f
      rw [show aft s.c = aftE s.c.n (s.c.r 4) s.c.E (s.c.m 4) from rfl, ← abT_congr (E := E) h4 hI] at q
      exact VV.r rfl (q _ _ _ rx fx)
    rw [if_neg (show ¬ w = nI 0 from c3)] at q
    refine VV.s rfl ?_
    refine VV.s rfl ?_
    refine VV.s rfl ?_
    refine VV.i (fun c4 => ?_) (fun c4 => ?_)
    · rw [if_pos c4] at q
      repeat refine VV.s rfl ?_
      (refine VV.c rfl ?_; refine c_amiss (g := 32) rfl (up_s _ _ _) h4 (fun f => ?_))
      repeat refine VV.s rfl ?_
      obtain ⟨rx, fx⟩ := fin f
      rw [show aft s.c = aftE s.c.n (s.c.r 4) s.c.E (s.c.m 4) from rfl, ← amI_congr (E := E) h4 hI s.c.n 0 (by omega)] at q
      exact VV.r rfl (q _ _ _ rx fx)
    rw [if_neg c4] at q
    repeat refine VV.s rfl ?_
    (refine VV.c rfl ?_; refine c_detP (g := 32) rfl (up_s _ _ _) h4 (show 2 ^ s.c.n - 1 < 2 ^ s.c.n by omega) (show 2 ^ s.c.n - 1 < 2 ^ s.c.n by omega) rfl (fun f => ?_))
    obtain ⟨rx, fx⟩ := fin f
    rw [show aft s.c = aftE s.c.n (s.c.r 4) s.c.E (s.c.m 4) from rfl, ← mnr_congr (E := E) h4 (show 2 ^ s.c.n - 1 < 2 ^ s.c.n by omega) (show 2 ^ s.c.n - 1 < 2 ^ s.c.n by omega) hI] at q
    exact VV.r rfl (q _ _ _ rx fx)
end X9
