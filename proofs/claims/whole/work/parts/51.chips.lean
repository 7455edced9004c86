/-! the class's calls: products, paths, take -/
theorem mnr_1 (E : Nat → Int64) {i j : Nat} (hi : i < 4) (hj : j < 4) : mnr E (2 ^ i) (2 ^ j) = E (4 * i + j) := by
  rcases (show i = 0 ∨ i = 1 ∨ i = 2 ∨ i = 3 by omega) with rfl | rfl | rfl | rfl <;> rcases (show j = 0 ∨ j = 1 ∨ j = 2 ∨ j = 3 by omega) with rfl | rfl | rfl | rfl <;> simp [mnr, dL, mz, lowb]
theorem pop_1 {i : Nat} (hi : i < 4) : pop4 (2 ^ i) = 1 ∧ 2 ^ i < 16 := by
  rcases (show i = 0 ∨ i = 1 ∨ i = 2 ∨ i = 3 by omega) with rfl | rfl | rfl | rfl <;> decide
def tkB (E : Nat → Int64) (n : Nat) : Bool := (List.range n).all (fun i => (List.range n).all (fun j => decide (E (4 * i + j) ≤ lN 99)))
theorem tkB_t {E : Nat → Int64} {n : Nat} : tkB E n = true ↔ ∀ i j, i < n → j < n → E (4 * i + j) ≤ lN 99 := by
  unfold tkB
  rw [List.all_eq_true]
  exact ⟨fun h i j hi hj => of_decide_eq_true (List.all_eq_true.mp (h i (List.mem_range.mpr hi)) j (List.mem_range.mpr hj)), fun h i hi => List.all_eq_true.mpr (fun j hj => decide_eq_true (h i j (List.mem_range.mp hi) (List.mem_range.mp hj)))⟩
abbrev prodE (c : Co) : Nat → Int64 := pst (c.r 1) (c.m 1)
def oTake (s : St) : Int32 × St := if tkB (prodE s.c) s.c.n = true then (nI 1, s.sc ((s.c.sN 2 0).sL 0 (prodE s.c))) else (-(nI 3), s)
def oPaths (s : St) (x y : Int32) : Int64 × St := (if mnB s.c.n x y = true then wst (s.c.r 1) x.toNatClampNeg (s.c.m 1) y.toNatClampNeg else noJ, s)
def oProduct (s : St) (x : Int32) : Int64 × St := (if spB s.c.n x = true then wst (s.c.r 1) (2 ^ (x.toNatClampNeg / 10)) (s.c.m 1) (2 ^ (x.toNatClampNeg % 10)) else noJ, s)
theorem fin_mv2 : (List.range 16).all (fun t => (List.range 4).all (fun f => (List.range 4).all (fun g => decide (f ≠ g → t / 2 ^ f % 2 = 1 → t / 2 ^ g % 2 = 0 → (t ^^^ 2 ^ f ^^^ 2 ^ g < 16 ∧ (t ^^^ 2 ^ f ^^^ 2 ^ g) / 2 ^ g % 2 = 1 ∧ (t ^^^ 2 ^ f ^^^ 2 ^ g) / 2 ^ f % 2 = 0 ∧ t ^^^ 2 ^ f ^^^ 2 ^ g ^^^ 2 ^ f ^^^ 2 ^ g = t))))) = true := by decide +kernel
theorem t_mv2 {t f g : Nat} (ht : t < 16) (hf : f < 4) (hg : g < 4) (hfg : f ≠ g) (h1 : t / 2 ^ f % 2 = 1) (h2 : t / 2 ^ g % 2 = 0) : t ^^^ 2 ^ f ^^^ 2 ^ g < 16 ∧ (t ^^^ 2 ^ f ^^^ 2 ^ g) / 2 ^ g % 2 = 1 ∧ (t ^^^ 2 ^ f ^^^ 2 ^ g) / 2 ^ f % 2 = 0 ∧ t ^^^ 2 ^ f ^^^ 2 ^ g ^^^ 2 ^ f ^^^ 2 ^ g = t := of_decide_eq_true (List.all_eq_true.mp (List.all_eq_true.mp (List.all_eq_true.mp fin_mv2 t (List.mem_range.mpr ht)) f (List.mem_range.mpr hf)) g (List.mem_range.mpr hg)) hfg h1 h2
theorem fin_mv3 : (List.range 16).all (fun t => (List.range 4).all (fun f => (List.range 4).all (fun g => decide (f ≠ g → t / 2 ^ g % 2 = 1 → t / 2 ^ f % 2 = 0 → (t ^^^ 2 ^ f ^^^ 2 ^ g < 16 ∧ (t ^^^ 2 ^ f ^^^ 2 ^ g) / 2 ^ g % 2 = 0 ∧ (t ^^^ 2 ^ f ^^^ 2 ^ g) / 2 ^ f % 2 = 1 ∧ t ^^^ 2 ^ f ^^^ 2 ^ g ^^^ 2 ^ f ^^^ 2 ^ g = t))))) = true := by decide +kernel
theorem t_mv3 {t f g : Nat} (ht : t < 16) (hf : f < 4) (hg : g < 4) (hfg : f ≠ g) (h1 : t / 2 ^ g % 2 = 1) (h2 : t / 2 ^ f % 2 = 0) : t ^^^ 2 ^ f ^^^ 2 ^ g < 16 ∧ (t ^^^ 2 ^ f ^^^ 2 ^ g) / 2 ^ g % 2 = 0 ∧ (t ^^^ 2 ^ f ^^^ 2 ^ g) / 2 ^ f % 2 = 1 ∧ t ^^^ 2 ^ f ^^^ 2 ^ g ^^^ 2 ^ f ^^^ 2 ^ g = t := of_decide_eq_true (List.all_eq_true.mp (List.all_eq_true.mp (List.all_eq_true.mp fin_mv3 t (List.mem_range.mpr ht)) f (List.mem_range.mpr hf)) g (List.mem_range.mpr hg)) hfg h1 h2
theorem ab_ne {a i : Nat} (h : a ≠ 2) (h3 : a < 3) : aL a i ≠ bL a i := by
  rcases (show a = 0 ∨ a = 1 by omega) with rfl | rfl
  · rw [aL_0, bL_0]; omega
  · rw [aL_1, bL_1]; omega
/-- the sets below t are done -/
def wkI (a i v : Nat) (W : Nat → Int64) (t : Nat) (V : Nat → Int64) : Prop := ∀ u, u < 16 → V u = if a = 2 then (if u < t ∧ u / 2 ^ i % 2 = 1 then W u * lN v else W u) else if (u / 2 ^ bL a i % 2 = 1 ∧ u / 2 ^ aL a i % 2 = 0) ∧ u ^^^ 2 ^ aL a i ^^^ 2 ^ bL a i < t then W u + W (u ^^^ 2 ^ aL a i ^^^ 2 ^ bL a i) * lN v else W u
section XH
variable {S : Cl} {τ : Nat → Int32} {A : Nat → Nat → Int32} {B : Nat → Nat → Int64}
variable {d : Nat} {Q : Option Value → Hp → Prop}
theorem cl_ahead {a i : Nat} {h : Hp} (ha : a < 3) (q : Q (some (.int (nI (aL a i)))) h) : CC d M_T_lineAhead [.int (nI a), .int (nI i)] h Q := by
  refine CC.of rfl ?_
  rcases (show a = 0 ∨ a = 1 ∨ a = 2 by omega) with rfl | rfl | rfl
  · repeat (first | refine VV.add rfl ?_ | refine VV.inc rfl rfl rfl ?_ | refine VV.mul rfl ?_ | refine VV.sub rfl (by omega) ?_ | refine VV.shl1 rfl (by omega) ?_ | refine VV.shl rfl ⟨by omega, by omega⟩ ?_ | refine VV.shr rfl ⟨by omega, by omega⟩ ?_ | refine VV.and rfl ?_ | refine VV.div rfl ⟨by omega, by omega, by omega⟩ ?_ | refine VV.rem rfl ⟨by omega, by omega, by omega⟩ ?_ | refine VV.s rfl ?_  | refine VV.b (b_ltT (by omega) (by omega)) ?_ | refine VV.b (b_ltF (by omega) (by omega)) ?_ | refine VV.b (b_geT (by omega) (by omega)) ?_ | refine VV.b (b_geF (by omega) (by omega)) ?_ | refine VV.b (b_gtT (by omega) (by omega)) ?_ | refine VV.b (b_gtF (by omega) (by omega)) ?_ | refine VV.b (b_leT (by omega) (by omega)) ?_ | refine VV.b (b_leF (by omega) (by omega)) ?_ | refine VV.b (b_eqT (by omega) (by omega)) ?_ | refine VV.b (b_eqF (by omega) (by omega)) ?_ | refine VV.b (b_neT (by omega) (by omega)) ?_ | refine VV.b (b_neF (by omega) (by omega)) ?_)
    exact VV.r rfl q
  · repeat (first | refine VV.add rfl ?_ | refine VV.inc rfl rfl rfl ?_ | refine VV.mul rfl ?_ | refine VV.sub rfl (by omega) ?_ | refine VV.shl1 rfl (by omega) ?_ | refine VV.shl rfl ⟨by omega, by omega⟩ ?_ | refine VV.shr rfl ⟨by omega, by omega⟩ ?_ | refine VV.and rfl ?_ | refine VV.div rfl ⟨by omega, by omega, by omega⟩ ?_ | refine VV.rem rfl ⟨by omega, by omega, by omega⟩ ?_ | refine VV.s rfl ?_  | refine VV.b (b_ltT (by omega) (by omega)) ?_ | refine VV.b (b_ltF (by omega) (by omega)) ?_ | refine VV.b (b_geT (by omega) (by omega)) ?_ | refine VV.b (b_geF (by omega) (by omega)) ?_ | refine VV.b (b_gtT (by omega) (by omega)) ?_ | refine VV.b (b_gtF (by omega) (by omega)) ?_ | refine VV.b (b_leT (by omega) (by omega)) ?_ | refine VV.b (b_leF (by omega) (by omega)) ?_ | refine VV.b (b_eqT (by omega) (by omega)) ?_ | refine VV.b (b_eqF (by omega) (by omega)) ?_ | refine VV.b (b_neT (by omega) (by omega)) ?_ | refine VV.b (b_neF (by omega) (by omega)) ?_)
    exact VV.r rfl q
  · repeat (first | refine VV.add rfl ?_ | refine VV.inc rfl rfl rfl ?_ | refine VV.mul rfl ?_ | refine VV.sub rfl (by omega) ?_ | refine VV.shl1 rfl (by omega) ?_ | refine VV.shl rfl ⟨by omega, by omega⟩ ?_ | refine VV.shr rfl ⟨by omega, by omega⟩ ?_ | refine VV.and rfl ?_ | refine VV.div rfl ⟨by omega, by omega, by omega⟩ ?_ | refine VV.rem rfl ⟨by omega, by omega, by omega⟩ ?_ | refine VV.s rfl ?_  | refine VV.b (b_ltT (by omega) (by omega)) ?_ | refine VV.b (b_ltF (by omega) (by omega)) ?_ | refine VV.b (b_geT (by omega) (by omega)) ?_ | refine VV.b (b_geF (by omega) (by omega)) ?_ | refine VV.b (b_gtT (by omega) (by omega)) ?_ | refine VV.b (b_gtF (by omega) (by omega)) ?_ | refine VV.b (b_leT (by omega) (by omega)) ?_ | refine VV.b (b_leF (by omega) (by omega)) ?_ | refine VV.b (b_eqT (by omega) (by omega)) ?_ | refine VV.b (b_eqF (by omega) (by omega)) ?_ | refine VV.b (b_neT (by omega) (by omega)) ?_ | refine VV.b (b_neF (by omega) (by omega)) ?_)
    exact VV.r rfl q
theorem cl_behind {a i : Nat} {h : Hp} (ha : a < 3) (q : Q (some (.int (nI (bL a i)))) h) : CC d M_T_lineBehind [.int (nI a), .int (nI i)] h Q := by
  refine CC.of rfl ?_
  rcases (show a = 0 ∨ a = 1 ∨ a = 2 by omega) with rfl | rfl | rfl
  · repeat (first | refine VV.add rfl ?_ | refine VV.inc rfl rfl rfl ?_ | refine VV.mul rfl ?_ | refine VV.sub rfl (by omega) ?_ | refine VV.shl1 rfl (by omega) ?_ | refine VV.shl rfl ⟨by omega, by omega⟩ ?_ | refine VV.shr rfl ⟨by omega, by omega⟩ ?_ | refine VV.and rfl ?_ | refine VV.div rfl ⟨by omega, by omega, by omega⟩ ?_ | refine VV.rem rfl ⟨by omega, by omega, by omega⟩ ?_ | refine VV.s rfl ?_  | refine VV.b (b_ltT (by omega) (by omega)) ?_ | refine VV.b (b_ltF (by omega) (by omega)) ?_ | refine VV.b (b_geT (by omega) (by omega)) ?_ | refine VV.b (b_geF (by omega) (by omega)) ?_ | refine VV.b (b_gtT (by omega) (by omega)) ?_ | refine VV.b (b_gtF (by omega) (by omega)) ?_ | refine VV.b (b_leT (by omega) (by omega)) ?_ | refine VV.b (b_leF (by omega) (by omega)) ?_ | refine VV.b (b_eqT (by omega) (by omega)) ?_ | refine VV.b (b_eqF (by omega) (by omega)) ?_ | refine VV.b (b_neT (by omega) (by omega)) ?_ | refine VV.b (b_neF (by omega) (by omega)) ?_)
    exact VV.r rfl q
  · repeat (first | refine VV.add rfl ?_ | refine VV.inc rfl rfl rfl ?_ | refine VV.mul rfl ?_ | refine VV.sub rfl (by omega) ?_ | refine VV.shl1 rfl (by omega) ?_ | refine VV.shl rfl ⟨by omega, by omega⟩ ?_ | refine VV.shr rfl ⟨by omega, by omega⟩ ?_ | refine VV.and rfl ?_ | refine VV.div rfl ⟨by omega, by omega, by omega⟩ ?_ | refine VV.rem rfl ⟨by omega, by omega, by omega⟩ ?_ | refine VV.s rfl ?_  | refine VV.b (b_ltT (by omega) (by omega)) ?_ | refine VV.b (b_ltF (by omega) (by omega)) ?_ | refine VV.b (b_geT (by omega) (by omega)) ?_ | refine VV.b (b_geF (by omega) (by omega)) ?_ | refine VV.b (b_gtT (by omega) (by omega)) ?_ | refine VV.b (b_gtF (by omega) (by omega)) ?_ | refine VV.b (b_leT (by omega) (by omega)) ?_ | refine VV.b (b_leF (by omega) (by omega)) ?_ | refine VV.b (b_eqT (by omega) (by omega)) ?_ | refine VV.b (b_eqF (by omega) (by omega)) ?_ | refine VV.b (b_neT (by omega) (by omega)) ?_ | refine VV.b (b_neF (by omega) (by omega)) ?_)
    exact VV.r rfl q
  · repeat (first | refine VV.add rfl ?_ | refine VV.inc rfl rfl rfl ?_ | refine VV.mul rfl ?_ | refine VV.sub rfl (by omega) ?_ | refine VV.shl1 rfl (by omega) ?_ | refine VV.shl rfl ⟨by omega, by omega⟩ ?_ | refine VV.shr rfl ⟨by omega, by omega⟩ ?_ | refine VV.and rfl ?_ | refine VV.div rfl ⟨by omega, by omega, by omega⟩ ?_ | refine VV.rem rfl ⟨by omega, by omega, by omega⟩ ?_ | refine VV.s rfl ?_  | refine VV.b (b_ltT (by omega) (by omega)) ?_ | refine VV.b (b_ltF (by omega) (by omega)) ?_ | refine VV.b (b_geT (by omega) (by omega)) ?_ | refine VV.b (b_geF (by omega) (by omega)) ?_ | refine VV.b (b_gtT (by omega) (by omega)) ?_ | refine VV.b (b_gtF (by omega) (by omega)) ?_ | refine VV.b (b_leT (by omega) (by omega)) ?_ | refine VV.b (b_leF (by omega) (by omega)) ?_ | refine VV.b (b_eqT (by omega) (by omega)) ?_ | refine VV.b (b_eqF (by omega) (by omega)) ?_ | refine VV.b (b_neT (by omega) (by omega)) ?_ | refine VV.b (b_neF (by omega) (by omega)) ?_)
    exact VV.r rfl q
theorem cw_waysTo {k : Nat} (hk : k < 16) (q : Q (some (.long (B 43 k))) (HH S τ A B)) : CC d M_T_waysTo [.ref 1, .int (nI k)] (HH S τ A B) Q := by
  refine CC.of rfl ?_
  repeat (first | refine VV.jln (a := 43) (n := 16) rfl rfl rfl ?_ | refine VV.add rfl ?_ | refine VV.inc rfl rfl rfl ?_ | refine VV.mul rfl ?_ | refine VV.sub rfl (by omega) ?_ | refine VV.shl1 rfl (by omega) ?_ | refine VV.shl rfl ⟨by omega, by omega⟩ ?_ | refine VV.shr rfl ⟨by omega, by omega⟩ ?_ | refine VV.and rfl ?_ | refine VV.div rfl ⟨by omega, by omega, by omega⟩ ?_ | refine VV.rem rfl ⟨by omega, by omega, by omega⟩ ?_ | refine VV.s rfl ?_  | refine VV.b (b_ltT (by omega) (by omega)) ?_ | refine VV.b (b_ltF (by omega) (by omega)) ?_ | refine VV.b (b_geT (by omega) (by omega)) ?_ | refine VV.b (b_geF (by omega) (by omega)) ?_ | refine VV.b (b_gtT (by omega) (by omega)) ?_ | refine VV.b (b_gtF (by omega) (by omega)) ?_ | refine VV.b (b_leT (by omega) (by omega)) ?_ | refine VV.b (b_leF (by omega) (by omega)) ?_ | refine VV.b (b_eqT (by omega) (by omega)) ?_ | refine VV.b (b_eqF (by omega) (by omega)) ?_ | refine VV.b (b_neT (by omega) (by omega)) ?_ | refine VV.b (b_neF (by omega) (by omega)) ?_)
  refine VV.ja rfl rfl rfl (show k < 16 from hk) ?_
  repeat refine VV.s rfl ?_
  exact VV.r rfl q
theorem cw_putWays {k : Nat} {x : Int64} (hk : k < 16) (q : Q none (HH S τ A (up B 43 (up (B 43) k x)))) : CC d M_T_putWays [.ref 1, .int (nI k), .long x] (HH S τ A B) Q := by
  refine CC.of rfl ?_
  repeat (first | refine VV.jln (a := 43) (n := 16) rfl rfl rfl ?_ | refine VV.add rfl ?_ | refine VV.inc rfl rfl rfl ?_ | refine VV.mul rfl ?_ | refine VV.sub rfl (by omega) ?_ | refine VV.shl1 rfl (by omega) ?_ | refine VV.shl rfl ⟨by omega, by omega⟩ ?_ | refine VV.shr rfl ⟨by omega, by omega⟩ ?_ | refine VV.and rfl ?_ | refine VV.div rfl ⟨by omega, by omega, by omega⟩ ?_ | refine VV.rem rfl ⟨by omega, by omega, by omega⟩ ?_ | refine VV.s rfl ?_  | refine VV.b (b_ltT (by omega) (by omega)) ?_ | refine VV.b (b_ltF (by omega) (by omega)) ?_ | refine VV.b (b_geT (by omega) (by omega)) ?_ | refine VV.b (b_geF (by omega) (by omega)) ?_ | refine VV.b (b_gtT (by omega) (by omega)) ?_ | refine VV.b (b_gtF (by omega) (by omega)) ?_ | refine VV.b (b_leT (by omega) (by omega)) ?_ | refine VV.b (b_leF (by omega) (by omega)) ?_ | refine VV.b (b_eqT (by omega) (by omega)) ?_ | refine VV.b (b_eqF (by omega) (by omega)) ?_ | refine VV.b (b_neT (by omega) (by omega)) ?_ | refine VV.b (b_neF (by omega) (by omega)) ?_)
  refine VV.js rfl rfl rfl (show k < 16 from hk) ?_
  exact VV.r rfl q
theorem cx_walk {n a i v : Nat} (h4 : n ≤ 4) (hc : chOk n a i v) (q : ∀ W, (∀ t, t < 16 → W t = wst1 a i v (B 43) t) → Q none (HH S τ A (up B 43 W))) : CC (d + 1) M_T_walkThrough [.ref 1, .int (nI a), .int (nI i), .int (nI v)] (HH S τ A B) Q := by
  obtain ⟨hf, hg⟩ := ab_lt h4 hc
  obtain ⟨ha, hi, v1, v2⟩ := hc
  have pf := pw4 (show aL a i < 4 by omega)
  have pg := pw4 (show bL a i < 4 by omega)
  have V := VV.inv (fun t V => wkI a i v (B 43) t V) (fun t V => ∀ x7, VV (d + 1) M_T_walkThrough 21 [some (.ref 1), some (.int (nI a)), some (.int (nI i)), some (.int (nI v)), some (.int (nI (2 ^ aL a i))), some (.int (nI (2 ^ bL a i))), some (.int (nI t)), x7] [] (HH S τ A (up B 43 V)) Q) 16 ?_ ?_ 16 0 (B 43) (by omega) (fun u hu => by rw [if_neg (show ¬ (u < 0 ∧ _) from fun z => absurd z.1 (Nat.not_lt_zero _)), if_neg (show ¬ (_ ∧ u ^^^ 2 ^ aL a i ^^^ 2 ^ bL a i < 0) from fun z => absurd z.2 (Nat.not_lt_zero _)), ite_self]) none
  · rw [up_id] at V
    refine CC.of rfl ?_
    repeat (first | refine VV.add rfl ?_ | refine VV.inc rfl rfl rfl ?_ | refine VV.mul rfl ?_ | refine VV.sub rfl (by omega) ?_ | refine VV.shl1 rfl (by omega) ?_ | refine VV.shl rfl ⟨by omega, by omega⟩ ?_ | refine VV.shr rfl ⟨by omega, by omega⟩ ?_ | refine VV.and rfl ?_ | refine VV.div rfl ⟨by omega, by omega, by omega⟩ ?_ | refine VV.rem rfl ⟨by omega, by omega, by omega⟩ ?_ | refine VV.s rfl ?_  | refine VV.b (b_ltT (by omega) (by omega)) ?_ | refine VV.b (b_ltF (by omega) (by omega)) ?_ | refine VV.b (b_geT (by omega) (by omega)) ?_ | refine VV.b (b_geF (by omega) (by omega)) ?_ | refine VV.b (b_gtT (by omega) (by omega)) ?_ | refine VV.b (b_gtF (by omega) (by omega)) ?_ | refine VV.b (b_leT (by omega) (by omega)) ?_ | refine VV.b (b_leF (by omega) (by omega)) ?_ | refine VV.b (b_eqT (by omega) (by omega)) ?_ | refine VV.b (b_eqF (by omega) (by omega)) ?_ | refine VV.b (b_neT (by omega) (by omega)) ?_ | refine VV.b (b_neF (by omega) (by omega)) ?_)
    (refine VV.c rfl ?_; refine cl_ahead ha ?_)
    repeat (first | refine VV.add rfl ?_ | refine VV.inc rfl rfl rfl ?_ | refine VV.mul rfl ?_ | refine VV.sub rfl (by omega) ?_ | refine VV.shl1 rfl (by omega) ?_ | refine VV.shl rfl ⟨by omega, by omega⟩ ?_ | refine VV.shr rfl ⟨by omega, by omega⟩ ?_ | refine VV.and rfl ?_ | refine VV.div rfl ⟨by omega, by omega, by omega⟩ ?_ | refine VV.rem rfl ⟨by omega, by omega, by omega⟩ ?_ | refine VV.s rfl ?_  | refine VV.b (b_ltT (by omega) (by omega)) ?_ | refine VV.b (b_ltF (by omega) (by omega)) ?_ | refine VV.b (b_geT (by omega) (by omega)) ?_ | refine VV.b (b_geF (by omega) (by omega)) ?_ | refine VV.b (b_gtT (by omega) (by omega)) ?_ | refine VV.b (b_gtF (by omega) (by omega)) ?_ | refine VV.b (b_leT (by omega) (by omega)) ?_ | refine VV.b (b_leF (by omega) (by omega)) ?_ | refine VV.b (b_eqT (by omega) (by omega)) ?_ | refine VV.b (b_eqF (by omega) (by omega)) ?_ | refine VV.b (b_neT (by omega) (by omega)) ?_ | refine VV.b (b_neF (by omega) (by omega)) ?_)
    (refine VV.c rfl ?_; refine cl_behind ha ?_)
    repeat (first | exact V | refine VV.add rfl ?_ | refine VV.inc rfl rfl rfl ?_ | refine VV.mul rfl ?_ | refine VV.sub rfl (by omega) ?_ | refine VV.shl1 rfl (by omega) ?_ | refine VV.shl rfl ⟨by omega, by omega⟩ ?_ | refine VV.shr rfl ⟨by omega, by omega⟩ ?_ | refine VV.and rfl ?_ | refine VV.div rfl ⟨by omega, by omega, by omega⟩ ?_ | refine VV.rem rfl ⟨by omega, by omega, by omega⟩ ?_ | refine VV.s rfl ?_  | refine VV.b (b_ltT (by omega) (by omega)) ?_ | refine VV.b (b_ltF (by omega) (by omega)) ?_ | refine VV.b (b_geT (by omega) (by omega)) ?_ | refine VV.b (b_geF (by omega) (by omega)) ?_ | refine VV.b (b_gtT (by omega) (by omega)) ?_ | refine VV.b (b_gtF (by omega) (by omega)) ?_ | refine VV.b (b_leT (by omega) (by omega)) ?_ | refine VV.b (b_leF (by omega) (by omega)) ?_ | refine VV.b (b_eqT (by omega) (by omega)) ?_ | refine VV.b (b_eqF (by omega) (by omega)) ?_ | refine VV.b (b_neT (by omega) (by omega)) ?_ | refine VV.b (b_neF (by omega) (by omega)) ?_)
  · intro t V ht hI nxt x7
    have bf := bit_and ht (show aL a i < 4 by omega)
    have bg := bit_and ht (show bL a i < 4 by omega)
    repeat (first | refine VV.jln (a := 43) (n := 16) rfl rfl rfl ?_ | refine VV.add rfl ?_ | refine VV.inc rfl rfl rfl ?_ | refine VV.mul rfl ?_ | refine VV.sub rfl (by omega) ?_ | refine VV.shl1 rfl (by omega) ?_ | refine VV.shl rfl ⟨by omega, by omega⟩ ?_ | refine VV.shr rfl ⟨by omega, by omega⟩ ?_ | refine VV.and rfl ?_ | refine VV.div rfl ⟨by omega, by omega, by omega⟩ ?_ | refine VV.rem rfl ⟨by omega, by omega, by omega⟩ ?_ | refine VV.s rfl ?_  | refine VV.b (b_ltT (by omega) (by omega)) ?_ | refine VV.b (b_ltF (by omega) (by omega)) ?_ | refine VV.b (b_geT (by omega) (by omega)) ?_ | refine VV.b (b_geF (by omega) (by omega)) ?_ | refine VV.b (b_gtT (by omega) (by omega)) ?_ | refine VV.b (b_gtF (by omega) (by omega)) ?_ | refine VV.b (b_leT (by omega) (by omega)) ?_ | refine VV.b (b_leF (by omega) (by omega)) ?_ | refine VV.b (b_eqT (by omega) (by omega)) ?_ | refine VV.b (b_eqF (by omega) (by omega)) ?_ | refine VV.b (b_neT (by omega) (by omega)) ?_ | refine VV.b (b_neF (by omega) (by omega)) ?_)
    by_cases c2 : a = 2
    · subst c2
      rw [aL_2] at bf pf ⊢
      repeat (first | refine VV.add rfl ?_ | refine VV.inc rfl rfl rfl ?_ | refine VV.mul rfl ?_ | refine VV.sub rfl (by omega) ?_ | refine VV.shl1 rfl (by omega) ?_ | refine VV.shl rfl ⟨by omega, by omega⟩ ?_ | refine VV.shr rfl ⟨by omega, by omega⟩ ?_ | refine VV.and rfl ?_ | refine VV.div rfl ⟨by omega, by omega, by omega⟩ ?_ | refine VV.rem rfl ⟨by omega, by omega, by omega⟩ ?_ | refine VV.s rfl ?_  | refine VV.b (b_ltT (by omega) (by omega)) ?_ | refine VV.b (b_ltF (by omega) (by omega)) ?_ | refine VV.b (b_geT (by omega) (by omega)) ?_ | refine VV.b (b_geF (by omega) (by omega)) ?_ | refine VV.b (b_gtT (by omega) (by omega)) ?_ | refine VV.b (b_gtF (by omega) (by omega)) ?_ | refine VV.b (b_leT (by omega) (by omega)) ?_ | refine VV.b (b_leF (by omega) (by omega)) ?_ | refine VV.b (b_eqT (by omega) (by omega)) ?_ | refine VV.b (b_eqF (by omega) (by omega)) ?_ | refine VV.b (b_neT (by omega) (by omega)) ?_ | refine VV.b (b_neF (by omega) (by omega)) ?_)
      rw [bf.1]
      by_cases cb : t / 2 ^ i % 2 = 1
      · rw [cb, Nat.one_mul]
        repeat (first | refine VV.add rfl ?_ | refine VV.inc rfl rfl rfl ?_ | refine VV.mul rfl ?_ | refine VV.sub rfl (by omega) ?_ | refine VV.shl1 rfl (by omega) ?_ | refine VV.shl rfl ⟨by omega, by omega⟩ ?_ | refine VV.shr rfl ⟨by omega, by omega⟩ ?_ | refine VV.and rfl ?_ | refine VV.div rfl ⟨by omega, by omega, by omega⟩ ?_ | refine VV.rem rfl ⟨by omega, by omega, by omega⟩ ?_ | refine VV.s rfl ?_  | refine VV.b (b_ltT (by omega) (by omega)) ?_ | refine VV.b (b_ltF (by omega) (by omega)) ?_ | refine VV.b (b_geT (by omega) (by omega)) ?_ | refine VV.b (b_geF (by omega) (by omega)) ?_ | refine VV.b (b_gtT (by omega) (by omega)) ?_ | refine VV.b (b_gtF (by omega) (by omega)) ?_ | refine VV.b (b_leT (by omega) (by omega)) ?_ | refine VV.b (b_leF (by omega) (by omega)) ?_ | refine VV.b (b_eqT (by omega) (by omega)) ?_ | refine VV.b (b_eqF (by omega) (by omega)) ?_ | refine VV.b (b_neT (by omega) (by omega)) ?_ | refine VV.b (b_neF (by omega) (by omega)) ?_)
        (refine VV.c rfl ?_; refine cw_waysTo ht ?_)
        repeat refine VV.s rfl ?_
        (refine VV.c rfl ?_; refine cw_putWays ht ?_)
        rw [up_up, up_s]
        have := nxt (up V t (V t * lN v)) (fun u hu => by
          rw [if_pos rfl]
          by_cases e : u = t
          · subst e
            have := hI u hu
            rw [if_pos rfl, if_neg (by omega)] at this
            rw [up_s, if_pos ⟨by omega, cb⟩, this]
          · have := hI u hu
            rw [if_pos rfl] at this
            rw [up_n e, this]
            by_cases c3 : u < t ∧ u / 2 ^ i % 2 = 1
            · rw [if_pos c3, if_pos ⟨by omega, c3.2⟩]
            · rw [if_neg c3, if_neg (fun z => c3 ⟨by omega, z.2⟩)]) x7
        rw [nI_l (by omega)]
        repeat (first | exact this | refine VV.add rfl ?_ | refine VV.inc rfl rfl rfl ?_ | refine VV.mul rfl ?_ | refine VV.sub rfl (by omega) ?_ | refine VV.shl1 rfl (by omega) ?_ | refine VV.shl rfl ⟨by omega, by omega⟩ ?_ | refine VV.shr rfl ⟨by omega, by omega⟩ ?_ | refine VV.and rfl ?_ | refine VV.div rfl ⟨by omega, by omega, by omega⟩ ?_ | refine VV.rem rfl ⟨by omega, by omega, by omega⟩ ?_ | refine VV.s rfl ?_  | refine VV.b (b_ltT (by omega) (by omega)) ?_ | refine VV.b (b_ltF (by omega) (by omega)) ?_ | refine VV.b (b_geT (by omega) (by omega)) ?_ | refine VV.b (b_geF (by omega) (by omega)) ?_ | refine VV.b (b_gtT (by omega) (by omega)) ?_ | refine VV.b (b_gtF (by omega) (by omega)) ?_ | refine VV.b (b_leT (by omega) (by omega)) ?_ | refine VV.b (b_leF (by omega) (by omega)) ?_ | refine VV.b (b_eqT (by omega) (by omega)) ?_ | refine VV.b (b_eqF (by omega) (by omega)) ?_ | refine VV.b (b_neT (by omega) (by omega)) ?_ | refine VV.b (b_neF (by omega) (by omega)) ?_)
      · have cb0 : t / 2 ^ i % 2 = 0 := by omega
        rw [cb0, Nat.zero_mul]
        have := nxt V (fun u hu => by
          have := hI u hu
          rw [if_pos rfl] at this ⊢
          rw [this]
          by_cases c3 : u < t ∧ u / 2 ^ i % 2 = 1
          · rw [if_pos c3, if_pos ⟨by omega, c3.2⟩]
          · rw [if_neg c3, if_neg (fun z => c3 ⟨by
              by_cases e : u = t
              · subst e; exact absurd z.2 cb
              · omega, z.2⟩)]) x7
        repeat (first | exact this | refine VV.add rfl ?_ | refine VV.inc rfl rfl rfl ?_ | refine VV.mul rfl ?_ | refine VV.sub rfl (by omega) ?_ | refine VV.shl1 rfl (by omega) ?_ | refine VV.shl rfl ⟨by omega, by omega⟩ ?_ | refine VV.shr rfl ⟨by omega, by omega⟩ ?_ | refine VV.and rfl ?_ | refine VV.div rfl ⟨by omega, by omega, by omega⟩ ?_ | refine VV.rem rfl ⟨by omega, by omega, by omega⟩ ?_ | refine VV.s rfl ?_  | refine VV.b (b_ltT (by omega) (by omega)) ?_ | refine VV.b (b_ltF (by omega) (by omega)) ?_ | refine VV.b (b_geT (by omega) (by omega)) ?_ | refine VV.b (b_geF (by omega) (by omega)) ?_ | refine VV.b (b_gtT (by omega) (by omega)) ?_ | refine VV.b (b_gtF (by omega) (by omega)) ?_ | refine VV.b (b_leT (by omega) (by omega)) ?_ | refine VV.b (b_leF (by omega) (by omega)) ?_ | refine VV.b (b_eqT (by omega) (by omega)) ?_ | refine VV.b (b_eqF (by omega) (by omega)) ?_ | refine VV.b (b_neT (by omega) (by omega)) ?_ | refine VV.b (b_neF (by omega) (by omega)) ?_)
    · have fg := ab_ne (i := i) c2 ha
      have skip : ¬ (t / 2 ^ aL a i % 2 = 1 ∧ t / 2 ^ bL a i % 2 = 0) → ∀ x7, VV (d + 1) M_T_walkThrough 112 [some (.ref 1), some (.int (nI a)), some (.int (nI i)), some (.int (nI v)), some (.int (nI (2 ^ aL a i))), some (.int (nI (2 ^ bL a i))), some (.int (nI t)), x7] [] (HH S τ A (up B 43 V)) Q := by
        intro hno x7
        have := nxt V (fun u hu => by
          have := hI u hu
          rw [if_neg c2] at this ⊢
          rw [this]
          by_cases c3 : u / 2 ^ bL a i % 2 = 1 ∧ u / 2 ^ aL a i % 2 = 0
          · obtain ⟨z1, z2, z3, z4⟩ := t_mv3 hu (show aL a i < 4 by omega) (show bL a i < 4 by omega) fg c3.1 c3.2
            have ne : u ^^^ 2 ^ aL a i ^^^ 2 ^ bL a i ≠ t := fun z => hno ⟨by rw [← z]; exact z3, by rw [← z]; exact z2⟩
            by_cases c4 : u ^^^ 2 ^ aL a i ^^^ 2 ^ bL a i < t
            · rw [if_pos ⟨c3, c4⟩, if_pos ⟨c3, by omega⟩]
            · rw [if_neg (fun z => c4 z.2), if_neg (fun z => c4 (by omega))]
          · rw [if_neg (fun z => c3 z.1), if_neg (fun z => c3 z.1)]) x7
        repeat (first | exact this | refine VV.add rfl ?_ | refine VV.inc rfl rfl rfl ?_ | refine VV.mul rfl ?_ | refine VV.sub rfl (by omega) ?_ | refine VV.shl1 rfl (by omega) ?_ | refine VV.shl rfl ⟨by omega, by omega⟩ ?_ | refine VV.shr rfl ⟨by omega, by omega⟩ ?_ | refine VV.and rfl ?_ | refine VV.div rfl ⟨by omega, by omega, by omega⟩ ?_ | refine VV.rem rfl ⟨by omega, by omega, by omega⟩ ?_ | refine VV.s rfl ?_  | refine VV.b (b_ltT (by omega) (by omega)) ?_ | refine VV.b (b_ltF (by omega) (by omega)) ?_ | refine VV.b (b_geT (by omega) (by omega)) ?_ | refine VV.b (b_geF (by omega) (by omega)) ?_ | refine VV.b (b_gtT (by omega) (by omega)) ?_ | refine VV.b (b_gtF (by omega) (by omega)) ?_ | refine VV.b (b_leT (by omega) (by omega)) ?_ | refine VV.b (b_leF (by omega) (by omega)) ?_ | refine VV.b (b_eqT (by omega) (by omega)) ?_ | refine VV.b (b_eqF (by omega) (by omega)) ?_ | refine VV.b (b_neT (by omega) (by omega)) ?_ | refine VV.b (b_neF (by omega) (by omega)) ?_)
      repeat (first | refine VV.add rfl ?_ | refine VV.inc rfl rfl rfl ?_ | refine VV.mul rfl ?_ | refine VV.sub rfl (by omega) ?_ | refine VV.shl1 rfl (by omega) ?_ | refine VV.shl rfl ⟨by omega, by omega⟩ ?_ | refine VV.shr rfl ⟨by omega, by omega⟩ ?_ | refine VV.and rfl ?_ | refine VV.div rfl ⟨by omega, by omega, by omega⟩ ?_ | refine VV.rem rfl ⟨by omega, by omega, by omega⟩ ?_ | refine VV.s rfl ?_  | refine VV.b (b_ltT (by omega) (by omega)) ?_ | refine VV.b (b_ltF (by omega) (by omega)) ?_ | refine VV.b (b_geT (by omega) (by omega)) ?_ | refine VV.b (b_geF (by omega) (by omega)) ?_ | refine VV.b (b_gtT (by omega) (by omega)) ?_ | refine VV.b (b_gtF (by omega) (by omega)) ?_ | refine VV.b (b_leT (by omega) (by omega)) ?_ | refine VV.b (b_leF (by omega) (by omega)) ?_ | refine VV.b (b_eqT (by omega) (by omega)) ?_ | refine VV.b (b_eqF (by omega) (by omega)) ?_ | refine VV.b (b_neT (by omega) (by omega)) ?_ | refine VV.b (b_neF (by omega) (by omega)) ?_)
      rw [bf.1]
      by_cases cf : t / 2 ^ aL a i % 2 = 1
      · rw [cf, Nat.one_mul]
        repeat (first | refine VV.add rfl ?_ | refine VV.inc rfl rfl rfl ?_ | refine VV.mul rfl ?_ | refine VV.sub rfl (by omega) ?_ | refine VV.shl1 rfl (by omega) ?_ | refine VV.shl rfl ⟨by omega, by omega⟩ ?_ | refine VV.shr rfl ⟨by omega, by omega⟩ ?_ | refine VV.and rfl ?_ | refine VV.div rfl ⟨by omega, by omega, by omega⟩ ?_ | refine VV.rem rfl ⟨by omega, by omega, by omega⟩ ?_ | refine VV.s rfl ?_  | refine VV.b (b_ltT (by omega) (by omega)) ?_ | refine VV.b (b_ltF (by omega) (by omega)) ?_ | refine VV.b (b_geT (by omega) (by omega)) ?_ | refine VV.b (b_geF (by omega) (by omega)) ?_ | refine VV.b (b_gtT (by omega) (by omega)) ?_ | refine VV.b (b_gtF (by omega) (by omega)) ?_ | refine VV.b (b_leT (by omega) (by omega)) ?_ | refine VV.b (b_leF (by omega) (by omega)) ?_ | refine VV.b (b_eqT (by omega) (by omega)) ?_ | refine VV.b (b_eqF (by omega) (by omega)) ?_ | refine VV.b (b_neT (by omega) (by omega)) ?_ | refine VV.b (b_neF (by omega) (by omega)) ?_)
        rw [bg.1]
        by_cases cg : t / 2 ^ bL a i % 2 = 1
        · rw [cg, Nat.one_mul]
          have := skip (fun z => by omega) x7
          repeat (first | exact this | refine VV.add rfl ?_ | refine VV.inc rfl rfl rfl ?_ | refine VV.mul rfl ?_ | refine VV.sub rfl (by omega) ?_ | refine VV.shl1 rfl (by omega) ?_ | refine VV.shl rfl ⟨by omega, by omega⟩ ?_ | refine VV.shr rfl ⟨by omega, by omega⟩ ?_ | refine VV.and rfl ?_ | refine VV.div rfl ⟨by omega, by omega, by omega⟩ ?_ | refine VV.rem rfl ⟨by omega, by omega, by omega⟩ ?_ | refine VV.s rfl ?_  | refine VV.b (b_ltT (by omega) (by omega)) ?_ | refine VV.b (b_ltF (by omega) (by omega)) ?_ | refine VV.b (b_geT (by omega) (by omega)) ?_ | refine VV.b (b_geF (by omega) (by omega)) ?_ | refine VV.b (b_gtT (by omega) (by omega)) ?_ | refine VV.b (b_gtF (by omega) (by omega)) ?_ | refine VV.b (b_leT (by omega) (by omega)) ?_ | refine VV.b (b_leF (by omega) (by omega)) ?_ | refine VV.b (b_eqT (by omega) (by omega)) ?_ | refine VV.b (b_eqF (by omega) (by omega)) ?_ | refine VV.b (b_neT (by omega) (by omega)) ?_ | refine VV.b (b_neF (by omega) (by omega)) ?_)
        · have cg0 : t / 2 ^ bL a i % 2 = 0 := by omega
          rw [cg0, Nat.zero_mul]
          obtain ⟨m1, m2, m3, m4⟩ := t_mv2 ht (show aL a i < 4 by omega) (show bL a i < 4 by omega) fg cf cg0
          repeat (first | refine VV.xor rfl ?_ | refine VV.add rfl ?_ | refine VV.inc rfl rfl rfl ?_ | refine VV.mul rfl ?_ | refine VV.sub rfl (by omega) ?_ | refine VV.shl1 rfl (by omega) ?_ | refine VV.shl rfl ⟨by omega, by omega⟩ ?_ | refine VV.shr rfl ⟨by omega, by omega⟩ ?_ | refine VV.and rfl ?_ | refine VV.div rfl ⟨by omega, by omega, by omega⟩ ?_ | refine VV.rem rfl ⟨by omega, by omega, by omega⟩ ?_ | refine VV.s rfl ?_  | refine VV.b (b_ltT (by omega) (by omega)) ?_ | refine VV.b (b_ltF (by omega) (by omega)) ?_ | refine VV.b (b_geT (by omega) (by omega)) ?_ | refine VV.b (b_geF (by omega) (by omega)) ?_ | refine VV.b (b_gtT (by omega) (by omega)) ?_ | refine VV.b (b_gtF (by omega) (by omega)) ?_ | refine VV.b (b_leT (by omega) (by omega)) ?_ | refine VV.b (b_leF (by omega) (by omega)) ?_ | refine VV.b (b_eqT (by omega) (by omega)) ?_ | refine VV.b (b_eqF (by omega) (by omega)) ?_ | refine VV.b (b_neT (by omega) (by omega)) ?_ | refine VV.b (b_neF (by omega) (by omega)) ?_)
          (refine VV.c rfl ?_; refine cw_waysTo m1 ?_)
          repeat refine VV.s rfl ?_
          (refine VV.c rfl ?_; refine cw_waysTo ht ?_)
          repeat refine VV.s rfl ?_
          (refine VV.c rfl ?_; refine cw_putWays m1 ?_)
          rw [up_up, up_s]
          have vm := hI _ m1
          rw [if_neg c2, m4, if_neg (fun z => absurd z.2 (by omega))] at vm
          have vt := hI _ ht
          rw [if_neg c2, if_neg (fun z => cg z.1.1)] at vt
          have := nxt (up V (t ^^^ 2 ^ aL a i ^^^ 2 ^ bL a i) (V (t ^^^ 2 ^ aL a i ^^^ 2 ^ bL a i) + V t * lN v)) (fun u hu => by
            rw [if_neg c2]
            by_cases e : u = t ^^^ 2 ^ aL a i ^^^ 2 ^ bL a i
            · subst e
              rw [up_s, m4, if_pos ⟨⟨m2, m3⟩, by omega⟩, vm, vt]
            · have := hI u hu
              rw [if_neg c2] at this
              rw [up_n e, this]
              by_cases c3 : u / 2 ^ bL a i % 2 = 1 ∧ u / 2 ^ aL a i % 2 = 0
              · obtain ⟨z1, z2, z3, z4⟩ := t_mv3 hu (show aL a i < 4 by omega) (show bL a i < 4 by omega) fg c3.1 c3.2
                have ne : u ^^^ 2 ^ aL a i ^^^ 2 ^ bL a i ≠ t := fun z => e (by rw [← z]; exact z4.symm)
                by_cases c4 : u ^^^ 2 ^ aL a i ^^^ 2 ^ bL a i < t
                · rw [if_pos ⟨c3, c4⟩, if_pos ⟨c3, by omega⟩]
                · rw [if_neg (fun z => c4 z.2), if_neg (fun z => c4 (by omega))]
              · rw [if_neg (fun z => c3 z.1), if_neg (fun z => c3 z.1)]) (some (.int (nI (t ^^^ 2 ^ aL a i ^^^ 2 ^ bL a i))))
          rw [nI_l (by omega)]
          repeat (first | exact this | refine VV.add rfl ?_ | refine VV.inc rfl rfl rfl ?_ | refine VV.mul rfl ?_ | refine VV.sub rfl (by omega) ?_ | refine VV.shl1 rfl (by omega) ?_ | refine VV.shl rfl ⟨by omega, by omega⟩ ?_ | refine VV.shr rfl ⟨by omega, by omega⟩ ?_ | refine VV.and rfl ?_ | refine VV.div rfl ⟨by omega, by omega, by omega⟩ ?_ | refine VV.rem rfl ⟨by omega, by omega, by omega⟩ ?_ | refine VV.s rfl ?_  | refine VV.b (b_ltT (by omega) (by omega)) ?_ | refine VV.b (b_ltF (by omega) (by omega)) ?_ | refine VV.b (b_geT (by omega) (by omega)) ?_ | refine VV.b (b_geF (by omega) (by omega)) ?_ | refine VV.b (b_gtT (by omega) (by omega)) ?_ | refine VV.b (b_gtF (by omega) (by omega)) ?_ | refine VV.b (b_leT (by omega) (by omega)) ?_ | refine VV.b (b_leF (by omega) (by omega)) ?_ | refine VV.b (b_eqT (by omega) (by omega)) ?_ | refine VV.b (b_eqF (by omega) (by omega)) ?_ | refine VV.b (b_neT (by omega) (by omega)) ?_ | refine VV.b (b_neF (by omega) (by omega)) ?_)
      · have cf0 : t / 2 ^ aL a i % 2 = 0 := by omega
        rw [cf0, Nat.zero_mul]
        have := skip (fun z => cf z.1) x7
        repeat (first | exact this | refine VV.add rfl ?_ | refine VV.inc rfl rfl rfl ?_ | refine VV.mul rfl ?_ | refine VV.sub rfl (by omega) ?_ | refine VV.shl1 rfl (by omega) ?_ | refine VV.shl rfl ⟨by omega, by omega⟩ ?_ | refine VV.shr rfl ⟨by omega, by omega⟩ ?_ | refine VV.and rfl ?_ | refine VV.div rfl ⟨by omega, by omega, by omega⟩ ?_ | refine VV.rem rfl ⟨by omega, by omega, by omega⟩ ?_ | refine VV.s rfl ?_  | refine VV.b (b_ltT (by omega) (by omega)) ?_ | refine VV.b (b_ltF (by omega) (by omega)) ?_ | refine VV.b (b_geT (by omega) (by omega)) ?_ | refine VV.b (b_geF (by omega) (by omega)) ?_ | refine VV.b (b_gtT (by omega) (by omega)) ?_ | refine VV.b (b_gtF (by omega) (by omega)) ?_ | refine VV.b (b_leT (by omega) (by omega)) ?_ | refine VV.b (b_leF (by omega) (by omega)) ?_ | refine VV.b (b_eqT (by omega) (by omega)) ?_ | refine VV.b (b_eqF (by omega) (by omega)) ?_ | refine VV.b (b_neT (by omega) (by omega)) ?_ | refine VV.b (b_neF (by omega) (by omega)) ?_)
  · intro V hI x7
    have := q V (fun t ht => by
      have := hI t ht
      rw [this]
      by_cases c2 : a = 2
      · subst c2
        rw [if_pos rfl, wst1_2]
        by_cases c3 : t / 2 ^ i % 2 = 1
        · rw [if_pos ⟨ht, c3⟩, if_pos c3]
        · rw [if_neg (fun z => c3 z.2), if_neg c3]
      · rw [if_neg c2, wst1_n c2]
        by_cases c3 : t / 2 ^ bL a i % 2 = 1 ∧ t / 2 ^ aL a i % 2 = 0
        · rw [if_pos ⟨c3, (t_mv3 ht (show aL a i < 4 by omega) (show bL a i < 4 by omega) (ab_ne c2 ha) c3.1 c3.2).1⟩, if_pos c3]
        · rw [if_neg (fun z => c3 z.1), if_neg c3])
    repeat (first | refine VV.jln (a := 43) (n := 16) rfl rfl rfl ?_ | refine VV.add rfl ?_ | refine VV.inc rfl rfl rfl ?_ | refine VV.mul rfl ?_ | refine VV.sub rfl (by omega) ?_ | refine VV.shl1 rfl (by omega) ?_ | refine VV.shl rfl ⟨by omega, by omega⟩ ?_ | refine VV.shr rfl ⟨by omega, by omega⟩ ?_ | refine VV.and rfl ?_ | refine VV.div rfl ⟨by omega, by omega, by omega⟩ ?_ | refine VV.rem rfl ⟨by omega, by omega, by omega⟩ ?_ | refine VV.s rfl ?_  | refine VV.b (b_ltT (by omega) (by omega)) ?_ | refine VV.b (b_ltF (by omega) (by omega)) ?_ | refine VV.b (b_geT (by omega) (by omega)) ?_ | refine VV.b (b_geF (by omega) (by omega)) ?_ | refine VV.b (b_gtT (by omega) (by omega)) ?_ | refine VV.b (b_gtF (by omega) (by omega)) ?_ | refine VV.b (b_leT (by omega) (by omega)) ?_ | refine VV.b (b_leF (by omega) (by omega)) ?_ | refine VV.b (b_eqT (by omega) (by omega)) ?_ | refine VV.b (b_eqF (by omega) (by omega)) ?_ | refine VV.b (b_neT (by omega) (by omega)) ?_ | refine VV.b (b_neF (by omega) (by omega)) ?_)
    exact VV.r rfl this
end XH
