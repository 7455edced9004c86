/-! fractions in lowest terms: both ways of Euclid come to one number -/
def eC : Nat → Nat → Nat → Nat
  | 0, x, _ => x
  | m + 1, x, y => if y = 0 then x else eC m y (x % y)
theorem gcd_step (x y : Nat) : Nat.gcd y (x % y) = Nat.gcd x y := by
  rw [Nat.gcd_comm x y, Nat.gcd_rec y x, Nat.gcd_comm]
theorem eC_0 (m x : Nat) : eC m x 0 = x := by
  cases m with
  | zero => rfl
  | succ m => exact if_pos rfl
theorem eC_gcd : ∀ k m x y, y < 2 ^ k → 2 * k ≤ m → eC m x y = Nat.gcd x y := by
  intro k
  induction k with
  | zero =>
    intro m x y hy hm
    have e : y = 0 := by omega
    subst e
    rw [eC_0, Nat.gcd_zero_right]
  | succ k ih =>
    intro m x y hy hm
    obtain ⟨m2, rfl⟩ : ∃ m2, m = m2 + 2 := ⟨m - 2, by omega⟩
    rw [eC]
    by_cases c : y = 0
    · subst c
      rw [if_pos rfl, Nat.gcd_zero_right]
    · rw [if_neg c, eC]
      by_cases c2 : x % y = 0
      · rw [if_pos c2, ← gcd_step, c2, Nat.gcd_zero_right]
      · rw [if_neg c2]
        have h1 : x % y < y := Nat.mod_lt _ (by omega)
        have h2 : y % (x % y) < x % y := Nat.mod_lt _ (by omega)
        have h3 : x % y + y % (x % y) ≤ y := by
          have e := Nat.div_add_mod y (x % y)
          have d : 1 ≤ y / (x % y) := (Nat.one_le_div_iff (by omega)).mpr (by omega)
          have := Nat.mul_le_mul_left (x % y) d
          omega
        rw [ih m2 _ _ (by rw [Nat.pow_succ] at hy; omega) (by omega), gcd_step, gcd_step]
theorem abs_1 {a : Int64} (h : a.toInt.natAbs < 2 ^ 63) : (if 0 < a then a else -a) = lN a.toInt.natAbs := by
  rw [← Int64.toInt_inj, pk_lT h]
  by_cases c : 0 < a
  · rw [if_pos c]
    rw [Int64.lt_iff_toInt_lt] at c
    rw [show (0 : Int64).toInt = 0 from rfl] at c
    omega
  · rw [if_neg c, i64_neg h]
    rw [Int64.lt_iff_toInt_lt] at c
    rw [show (0 : Int64).toInt = 0 from rfl] at c
    omega
theorem abs_2n {a : Int64} (h : a.toInt.natAbs < 2 ^ 63) (c : a < 0) : -a = lN a.toInt.natAbs := by
  rw [← Int64.toInt_inj, pk_lT h, i64_neg h]
  rw [Int64.lt_iff_toInt_lt, show (0 : Int64).toInt = 0 from rfl] at c
  omega
theorem abs_2p {a : Int64} (h : a.toInt.natAbs < 2 ^ 63) (c : ¬ a < 0) : a = lN a.toInt.natAbs := by
  rw [← Int64.toInt_inj, pk_lT h]
  rw [Int64.lt_iff_toInt_lt, show (0 : Int64).toInt = 0 from rfl] at c
  omega
def gcf (a b : Int64) : Nat := Nat.gcd a.toInt.natAbs b.toInt.natAbs
def lowT (a b : Int64) (p : Int32) : Int64 := (if p = nI 0 then a else b) / lN (gcf a b)
section GC
variable {d u pc nx ax i : Nat} {ng : Bool} {sw : List (Nat × Nat)} {L : Lc} {r : List Value} {h : Hp} {Q : Option Value → Hp → Prop}
theorem VV.ldiv {x y : Int64} (e : codeAt u pc = some (.ldiv, nx, ax, ng, sw)) (hy : y ≠ 0) (g : VV d u nx L (.long (x / y) :: r) h Q) : VV d u pc L (.long y :: .long x :: r) h Q := by
  refine VV.s ?_ g
  simp only [stp, e, kindI, stepI, s_lld]
  rw [if_neg hy]
theorem VV.lrem {x y : Nat} (e : codeAt u pc = some (.lrem, nx, ax, ng, sw)) (hx : x < 2 ^ 63) (h0 : 0 < y) (hy : y < 2 ^ 63) (g : VV d u nx L (.long (lN (x % y)) :: r) h Q) : VV d u pc L (.long (lN y) :: .long (lN x) :: r) h Q := by
  rw [← pk_lRem hx h0 hy] at g
  refine VV.s ?_ g
  simp only [stp, e, kindI, stepI, s_lld]
  rw [if_neg (fun z => by
    have := (pk_lEQ hy (show 0 < 2 ^ 63 by decide)).mp z
    omega)]
theorem VV.labs {a : Int64} (e : codeAt u pc = some (.invokestatic i, nx, 994, ng, sw)) (ha : a.toInt.natAbs < 2 ^ 63) (g : VV d u nx L [.long (lN a.toInt.natAbs)] h Q) : VV d u pc L [.long a] h Q := by
  rw [← abs_1 ha] at g
  refine VV.s ?_ g
  simp only [stp, e, kindI, stepI]
  rfl
theorem cx_common {a b : Int64} (ha : a.toInt.natAbs < 2 ^ 63) (hb : b.toInt.natAbs < 2 ^ 48) (q : Q (some (.long (lN (gcf a b)))) h) : CC d M_T_commonDivisor [.long a, .long b] h Q := by
  have L : ∀ m k, k + m = 100 → ∀ x y, x < 2 ^ 63 → y < 2 ^ 63 → ∀ x9, Q (some (.long (lN (eC m x y)))) h → VV d M_T_commonDivisor 15 [some (.long a), none, some (.long b), none, some (.long (lN x)), none, some (.long (lN y)), none, some (.int (nI k)), x9, none] [] h Q := by
    intro m
    induction m with
    | zero =>
      intro k hk x y hx hy x9 q1
      rw [eC] at q1
      repeat (first | refine VV.add rfl ?_ | refine VV.inc rfl rfl rfl ?_ | refine VV.mul rfl ?_ | refine VV.sub rfl (by omega) ?_ | refine VV.shl1 rfl (by omega) ?_ | refine VV.shl rfl ⟨by omega, by omega⟩ ?_ | refine VV.shr rfl ⟨by omega, by omega⟩ ?_ | refine VV.and rfl ?_ | refine VV.div rfl ⟨by omega, by omega, by omega⟩ ?_ | refine VV.rem rfl ⟨by omega, by omega, by omega⟩ ?_ | refine VV.s rfl ?_  | refine VV.b (b_ltT (by omega) (by omega)) ?_ | refine VV.b (b_ltF (by omega) (by omega)) ?_ | refine VV.b (b_geT (by omega) (by omega)) ?_ | refine VV.b (b_geF (by omega) (by omega)) ?_ | refine VV.b (b_gtT (by omega) (by omega)) ?_ | refine VV.b (b_gtF (by omega) (by omega)) ?_ | refine VV.b (b_leT (by omega) (by omega)) ?_ | refine VV.b (b_leF (by omega) (by omega)) ?_ | refine VV.b (b_eqT (by omega) (by omega)) ?_ | refine VV.b (b_eqF (by omega) (by omega)) ?_ | refine VV.b (b_neT (by omega) (by omega)) ?_ | refine VV.b (b_neF (by omega) (by omega)) ?_)
      exact VV.r rfl q1
    | succ m ih =>
      intro k hk x y hx hy x9 q1
      rw [eC] at q1
      repeat (first | refine VV.add rfl ?_ | refine VV.inc rfl rfl rfl ?_ | refine VV.mul rfl ?_ | refine VV.sub rfl (by omega) ?_ | refine VV.shl1 rfl (by omega) ?_ | refine VV.shl rfl ⟨by omega, by omega⟩ ?_ | refine VV.shr rfl ⟨by omega, by omega⟩ ?_ | refine VV.and rfl ?_ | refine VV.div rfl ⟨by omega, by omega, by omega⟩ ?_ | refine VV.rem rfl ⟨by omega, by omega, by omega⟩ ?_ | refine VV.s rfl ?_  | refine VV.b (b_ltT (by omega) (by omega)) ?_ | refine VV.b (b_ltF (by omega) (by omega)) ?_ | refine VV.b (b_geT (by omega) (by omega)) ?_ | refine VV.b (b_geF (by omega) (by omega)) ?_ | refine VV.b (b_gtT (by omega) (by omega)) ?_ | refine VV.b (b_gtF (by omega) (by omega)) ?_ | refine VV.b (b_leT (by omega) (by omega)) ?_ | refine VV.b (b_leF (by omega) (by omega)) ?_ | refine VV.b (b_eqT (by omega) (by omega)) ?_ | refine VV.b (b_eqF (by omega) (by omega)) ?_ | refine VV.b (b_neT (by omega) (by omega)) ?_ | refine VV.b (b_neF (by omega) (by omega)) ?_)
      refine VV.ceq (fun c => ?_) (fun c => ?_)
      · have := (pk_lEQ hy (show 0 < 2 ^ 63 by decide)).mp c
        rw [if_pos this] at q1
        repeat (first | refine VV.add rfl ?_ | refine VV.inc rfl rfl rfl ?_ | refine VV.mul rfl ?_ | refine VV.sub rfl (by omega) ?_ | refine VV.shl1 rfl (by omega) ?_ | refine VV.shl rfl ⟨by omega, by omega⟩ ?_ | refine VV.shr rfl ⟨by omega, by omega⟩ ?_ | refine VV.and rfl ?_ | refine VV.div rfl ⟨by omega, by omega, by omega⟩ ?_ | refine VV.rem rfl ⟨by omega, by omega, by omega⟩ ?_ | refine VV.s rfl ?_  | refine VV.b (b_ltT (by omega) (by omega)) ?_ | refine VV.b (b_ltF (by omega) (by omega)) ?_ | refine VV.b (b_geT (by omega) (by omega)) ?_ | refine VV.b (b_geF (by omega) (by omega)) ?_ | refine VV.b (b_gtT (by omega) (by omega)) ?_ | refine VV.b (b_gtF (by omega) (by omega)) ?_ | refine VV.b (b_leT (by omega) (by omega)) ?_ | refine VV.b (b_leF (by omega) (by omega)) ?_ | refine VV.b (b_eqT (by omega) (by omega)) ?_ | refine VV.b (b_eqF (by omega) (by omega)) ?_ | refine VV.b (b_neT (by omega) (by omega)) ?_ | refine VV.b (b_neF (by omega) (by omega)) ?_)
        exact VV.r rfl q1
      · have hy0 : y ≠ 0 := fun z => c (by rw [z])
        rw [if_neg hy0] at q1
        have hm := Nat.mod_lt x (show 0 < y by omega)
        have := ih (k + 1) (by omega) y (x % y) hy (by omega) (some (.long (lN (x % y)))) q1
        refine VV.s rfl ?_
        refine VV.s rfl ?_
        refine VV.lrem rfl hx (by omega) hy ?_
        repeat (first | exact this | refine VV.add rfl ?_ | refine VV.inc rfl rfl rfl ?_ | refine VV.mul rfl ?_ | refine VV.sub rfl (by omega) ?_ | refine VV.shl1 rfl (by omega) ?_ | refine VV.shl rfl ⟨by omega, by omega⟩ ?_ | refine VV.shr rfl ⟨by omega, by omega⟩ ?_ | refine VV.and rfl ?_ | refine VV.div rfl ⟨by omega, by omega, by omega⟩ ?_ | refine VV.rem rfl ⟨by omega, by omega, by omega⟩ ?_ | refine VV.s rfl ?_  | refine VV.b (b_ltT (by omega) (by omega)) ?_ | refine VV.b (b_ltF (by omega) (by omega)) ?_ | refine VV.b (b_geT (by omega) (by omega)) ?_ | refine VV.b (b_geF (by omega) (by omega)) ?_ | refine VV.b (b_gtT (by omega) (by omega)) ?_ | refine VV.b (b_gtF (by omega) (by omega)) ?_ | refine VV.b (b_leT (by omega) (by omega)) ?_ | refine VV.b (b_leF (by omega) (by omega)) ?_ | refine VV.b (b_eqT (by omega) (by omega)) ?_ | refine VV.b (b_eqF (by omega) (by omega)) ?_ | refine VV.b (b_neT (by omega) (by omega)) ?_ | refine VV.b (b_neF (by omega) (by omega)) ?_)
  refine CC.of rfl ?_
  refine VV.s rfl ?_
  refine VV.labs rfl ha ?_
  refine VV.s rfl ?_
  refine VV.s rfl ?_
  refine VV.labs rfl (by omega) ?_
  have := L 100 0 rfl a.toInt.natAbs b.toInt.natAbs ha (by omega) none (by rw [eC_gcd 48 100 _ _ hb (by omega)]; exact q)
  repeat (first | exact this | refine VV.add rfl ?_ | refine VV.inc rfl rfl rfl ?_ | refine VV.mul rfl ?_ | refine VV.sub rfl (by omega) ?_ | refine VV.shl1 rfl (by omega) ?_ | refine VV.shl rfl ⟨by omega, by omega⟩ ?_ | refine VV.shr rfl ⟨by omega, by omega⟩ ?_ | refine VV.and rfl ?_ | refine VV.div rfl ⟨by omega, by omega, by omega⟩ ?_ | refine VV.rem rfl ⟨by omega, by omega, by omega⟩ ?_ | refine VV.s rfl ?_  | refine VV.b (b_ltT (by omega) (by omega)) ?_ | refine VV.b (b_ltF (by omega) (by omega)) ?_ | refine VV.b (b_geT (by omega) (by omega)) ?_ | refine VV.b (b_geF (by omega) (by omega)) ?_ | refine VV.b (b_gtT (by omega) (by omega)) ?_ | refine VV.b (b_gtF (by omega) (by omega)) ?_ | refine VV.b (b_leT (by omega) (by omega)) ?_ | refine VV.b (b_leF (by omega) (by omega)) ?_ | refine VV.b (b_eqT (by omega) (by omega)) ?_ | refine VV.b (b_eqF (by omega) (by omega)) ?_ | refine VV.b (b_neT (by omega) (by omega)) ?_ | refine VV.b (b_neF (by omega) (by omega)) ?_)
theorem cm_common {a b : Int64} (ha : a.toInt.natAbs < 2 ^ 63) (hb : b.toInt.natAbs < 2 ^ 63) (q : Q (some (.long (lN (gcf a b)))) h) : CC d M_M_common [.long a, .long b] h Q := by
  have L : ∀ m x y, y < m → x < 2 ^ 63 → y < 2 ^ 63 → ∀ x8, Q (some (.long (lN (Nat.gcd x y)))) h → VV d M_M_common 28 [some (.long a), none, some (.long b), none, some (.long (lN x)), none, some (.long (lN y)), none, x8, none] [] h Q := by
    intro m
    induction m with
    | zero => intro x y hm; exact absurd hm (Nat.not_lt_zero _)
    | succ m ih =>
      intro x y hm hx hy x8 q1
      refine VV.s rfl ?_
      refine VV.s rfl ?_
      refine VV.s rfl ?_
      refine VV.s rfl ?_
      refine VV.ceq (fun c => ?_) (fun c => ?_)
      · have := (pk_lEQ hy (show 0 < 2 ^ 63 by decide)).mp c
        rw [this, Nat.gcd_zero_right] at q1
        repeat (first | refine VV.add rfl ?_ | refine VV.inc rfl rfl rfl ?_ | refine VV.mul rfl ?_ | refine VV.sub rfl (by omega) ?_ | refine VV.shl1 rfl (by omega) ?_ | refine VV.shl rfl ⟨by omega, by omega⟩ ?_ | refine VV.shr rfl ⟨by omega, by omega⟩ ?_ | refine VV.and rfl ?_ | refine VV.div rfl ⟨by omega, by omega, by omega⟩ ?_ | refine VV.rem rfl ⟨by omega, by omega, by omega⟩ ?_ | refine VV.s rfl ?_  | refine VV.b (b_ltT (by omega) (by omega)) ?_ | refine VV.b (b_ltF (by omega) (by omega)) ?_ | refine VV.b (b_geT (by omega) (by omega)) ?_ | refine VV.b (b_geF (by omega) (by omega)) ?_ | refine VV.b (b_gtT (by omega) (by omega)) ?_ | refine VV.b (b_gtF (by omega) (by omega)) ?_ | refine VV.b (b_leT (by omega) (by omega)) ?_ | refine VV.b (b_leF (by omega) (by omega)) ?_ | refine VV.b (b_eqT (by omega) (by omega)) ?_ | refine VV.b (b_eqF (by omega) (by omega)) ?_ | refine VV.b (b_neT (by omega) (by omega)) ?_ | refine VV.b (b_neF (by omega) (by omega)) ?_)
        exact VV.r rfl q1
      · have hy0 : y ≠ 0 := fun z => c (by rw [z])
        have hm2 := Nat.mod_lt x (show 0 < y by omega)
        rw [← gcd_step] at q1
        have := ih y (x % y) (by omega) hy (by omega) (some (.long (lN (x % y)))) q1
        refine VV.s rfl ?_
        refine VV.s rfl ?_
        refine VV.lrem rfl hx (by omega) hy ?_
        repeat (first | exact this | refine VV.add rfl ?_ | refine VV.inc rfl rfl rfl ?_ | refine VV.mul rfl ?_ | refine VV.sub rfl (by omega) ?_ | refine VV.shl1 rfl (by omega) ?_ | refine VV.shl rfl ⟨by omega, by omega⟩ ?_ | refine VV.shr rfl ⟨by omega, by omega⟩ ?_ | refine VV.and rfl ?_ | refine VV.div rfl ⟨by omega, by omega, by omega⟩ ?_ | refine VV.rem rfl ⟨by omega, by omega, by omega⟩ ?_ | refine VV.s rfl ?_  | refine VV.b (b_ltT (by omega) (by omega)) ?_ | refine VV.b (b_ltF (by omega) (by omega)) ?_ | refine VV.b (b_geT (by omega) (by omega)) ?_ | refine VV.b (b_geF (by omega) (by omega)) ?_ | refine VV.b (b_gtT (by omega) (by omega)) ?_ | refine VV.b (b_gtF (by omega) (by omega)) ?_ | refine VV.b (b_leT (by omega) (by omega)) ?_ | refine VV.b (b_leF (by omega) (by omega)) ?_ | refine VV.b (b_eqT (by omega) (by omega)) ?_ | refine VV.b (b_eqF (by omega) (by omega)) ?_ | refine VV.b (b_neT (by omega) (by omega)) ?_ | refine VV.b (b_neF (by omega) (by omega)) ?_)
  have L2 : VV d M_M_common 14 [some (.long a), none, some (.long b), none, some (.long (lN a.toInt.natAbs)), none, none, none, none, none] [] h Q := by
    have := L (b.toInt.natAbs + 1) a.toInt.natAbs b.toInt.natAbs (by omega) ha hb none q
    refine VV.s rfl ?_
    refine VV.s rfl ?_
    refine VV.s rfl ?_
    refine VV.s rfl ?_
    refine VV.cge0 (fun c => ?_) (fun c => ?_)
    · rw [← abs_2n hb c] at this
      repeat (first | exact this | refine VV.add rfl ?_ | refine VV.inc rfl rfl rfl ?_ | refine VV.mul rfl ?_ | refine VV.sub rfl (by omega) ?_ | refine VV.shl1 rfl (by omega) ?_ | refine VV.shl rfl ⟨by omega, by omega⟩ ?_ | refine VV.shr rfl ⟨by omega, by omega⟩ ?_ | refine VV.and rfl ?_ | refine VV.div rfl ⟨by omega, by omega, by omega⟩ ?_ | refine VV.rem rfl ⟨by omega, by omega, by omega⟩ ?_ | refine VV.s rfl ?_  | refine VV.b (b_ltT (by omega) (by omega)) ?_ | refine VV.b (b_ltF (by omega) (by omega)) ?_ | refine VV.b (b_geT (by omega) (by omega)) ?_ | refine VV.b (b_geF (by omega) (by omega)) ?_ | refine VV.b (b_gtT (by omega) (by omega)) ?_ | refine VV.b (b_gtF (by omega) (by omega)) ?_ | refine VV.b (b_leT (by omega) (by omega)) ?_ | refine VV.b (b_leF (by omega) (by omega)) ?_ | refine VV.b (b_eqT (by omega) (by omega)) ?_ | refine VV.b (b_eqF (by omega) (by omega)) ?_ | refine VV.b (b_neT (by omega) (by omega)) ?_ | refine VV.b (b_neF (by omega) (by omega)) ?_)
    · rw [← abs_2p hb c] at this
      repeat (first | exact this | refine VV.add rfl ?_ | refine VV.inc rfl rfl rfl ?_ | refine VV.mul rfl ?_ | refine VV.sub rfl (by omega) ?_ | refine VV.shl1 rfl (by omega) ?_ | refine VV.shl rfl ⟨by omega, by omega⟩ ?_ | refine VV.shr rfl ⟨by omega, by omega⟩ ?_ | refine VV.and rfl ?_ | refine VV.div rfl ⟨by omega, by omega, by omega⟩ ?_ | refine VV.rem rfl ⟨by omega, by omega, by omega⟩ ?_ | refine VV.s rfl ?_  | refine VV.b (b_ltT (by omega) (by omega)) ?_ | refine VV.b (b_ltF (by omega) (by omega)) ?_ | refine VV.b (b_geT (by omega) (by omega)) ?_ | refine VV.b (b_geF (by omega) (by omega)) ?_ | refine VV.b (b_gtT (by omega) (by omega)) ?_ | refine VV.b (b_gtF (by omega) (by omega)) ?_ | refine VV.b (b_leT (by omega) (by omega)) ?_ | refine VV.b (b_leF (by omega) (by omega)) ?_ | refine VV.b (b_eqT (by omega) (by omega)) ?_ | refine VV.b (b_eqF (by omega) (by omega)) ?_ | refine VV.b (b_neT (by omega) (by omega)) ?_ | refine VV.b (b_neF (by omega) (by omega)) ?_)
  refine CC.of rfl ?_
  refine VV.s rfl ?_
  refine VV.s rfl ?_
  refine VV.s rfl ?_
  refine VV.s rfl ?_
  refine VV.cge0 (fun c => ?_) (fun c => ?_)
  · rw [← abs_2n ha c] at L2
    repeat (first | exact L2 | refine VV.add rfl ?_ | refine VV.inc rfl rfl rfl ?_ | refine VV.mul rfl ?_ | refine VV.sub rfl (by omega) ?_ | refine VV.shl1 rfl (by omega) ?_ | refine VV.shl rfl ⟨by omega, by omega⟩ ?_ | refine VV.shr rfl ⟨by omega, by omega⟩ ?_ | refine VV.and rfl ?_ | refine VV.div rfl ⟨by omega, by omega, by omega⟩ ?_ | refine VV.rem rfl ⟨by omega, by omega, by omega⟩ ?_ | refine VV.s rfl ?_  | refine VV.b (b_ltT (by omega) (by omega)) ?_ | refine VV.b (b_ltF (by omega) (by omega)) ?_ | refine VV.b (b_geT (by omega) (by omega)) ?_ | refine VV.b (b_geF (by omega) (by omega)) ?_ | refine VV.b (b_gtT (by omega) (by omega)) ?_ | refine VV.b (b_gtF (by omega) (by omega)) ?_ | refine VV.b (b_leT (by omega) (by omega)) ?_ | refine VV.b (b_leF (by omega) (by omega)) ?_ | refine VV.b (b_eqT (by omega) (by omega)) ?_ | refine VV.b (b_eqF (by omega) (by omega)) ?_ | refine VV.b (b_neT (by omega) (by omega)) ?_ | refine VV.b (b_neF (by omega) (by omega)) ?_)
  · rw [← abs_2p ha c] at L2
    repeat (first | exact L2 | refine VV.add rfl ?_ | refine VV.inc rfl rfl rfl ?_ | refine VV.mul rfl ?_ | refine VV.sub rfl (by omega) ?_ | refine VV.shl1 rfl (by omega) ?_ | refine VV.shl rfl ⟨by omega, by omega⟩ ?_ | refine VV.shr rfl ⟨by omega, by omega⟩ ?_ | refine VV.and rfl ?_ | refine VV.div rfl ⟨by omega, by omega, by omega⟩ ?_ | refine VV.rem rfl ⟨by omega, by omega, by omega⟩ ?_ | refine VV.s rfl ?_  | refine VV.b (b_ltT (by omega) (by omega)) ?_ | refine VV.b (b_ltF (by omega) (by omega)) ?_ | refine VV.b (b_geT (by omega) (by omega)) ?_ | refine VV.b (b_geF (by omega) (by omega)) ?_ | refine VV.b (b_gtT (by omega) (by omega)) ?_ | refine VV.b (b_gtF (by omega) (by omega)) ?_ | refine VV.b (b_leT (by omega) (by omega)) ?_ | refine VV.b (b_leF (by omega) (by omega)) ?_ | refine VV.b (b_eqT (by omega) (by omega)) ?_ | refine VV.b (b_eqF (by omega) (by omega)) ?_ | refine VV.b (b_neT (by omega) (by omega)) ?_ | refine VV.b (b_neF (by omega) (by omega)) ?_)
theorem gcf_ne {a b : Int64} (hb : b.toInt.natAbs < 2 ^ 63) (h0 : b.toInt.natAbs ≠ 0) : lN (gcf a b) ≠ 0 := by
  intro z
  have h1 : gcf a b ≤ b.toInt.natAbs := Nat.gcd_le_right _ (by omega)
  have h2 := (pk_lEQ (show gcf a b < 2 ^ 63 by omega) (show 0 < 2 ^ 63 by decide)).mp z
  have h3 : 0 < gcf a b := Nat.gcd_pos_of_pos_right _ (by omega)
  omega
theorem cx_low {a b : Int64} (ha : a.toInt.natAbs < 2 ^ 63) (hb : b.toInt.natAbs < 2 ^ 48) (h0 : b.toInt.natAbs ≠ 0) {p : Int32} (q : Q (some (.long (lowT a b p))) h) : CC (d + 1) M_T_inLowestTerms [.long a, .long b, .int p] h Q := by
  have hg := gcf_ne (a := a) (show b.toInt.natAbs < 2 ^ 63 by omega) h0
  unfold lowT at q
  refine CC.of rfl ?_
  repeat refine VV.s rfl ?_
  (refine VV.c rfl ?_; refine cx_common ha hb ?_)
  repeat refine VV.s rfl ?_
  refine VV.cne0 (fun c => absurd c hg) (fun c => ?_)
  refine VV.s rfl ?_
  refine VV.s rfl ?_
  refine VV.i (fun c1 => ?_) (fun c1 => ?_)
  · rw [if_pos (show p = nI 0 from c1)] at q
    repeat refine VV.s rfl ?_
    refine VV.ldiv rfl hg ?_
    exact VV.r rfl q
  · rw [if_neg (show ¬ p = nI 0 from c1)] at q
    repeat refine VV.s rfl ?_
    refine VV.ldiv rfl hg ?_
    exact VV.r rfl q
theorem cm_part {a b : Int64} (ha : a.toInt.natAbs < 2 ^ 63) (hb : b.toInt.natAbs < 2 ^ 63) (h0 : b.toInt.natAbs ≠ 0) {p : Int32} (q : Q (some (.long (lowT a b p))) h) : CC (d + 1) M_M_part [.long a, .long b, .int p] h Q := by
  have hg := gcf_ne (a := a) hb h0
  unfold lowT at q
  refine CC.of rfl ?_
  repeat refine VV.s rfl ?_
  (refine VV.c rfl ?_; refine cm_common ha hb ?_)
  refine VV.s rfl ?_
  refine VV.s rfl ?_
  refine VV.s rfl ?_
  refine VV.i (fun c1 => ?_) (fun c1 => ?_)
  · rw [if_pos (show p = nI 0 from c1)] at q
    repeat refine VV.s rfl ?_
    refine VV.ldiv rfl hg ?_
    repeat refine VV.s rfl ?_
    exact VV.r rfl q
  · rw [if_neg (show ¬ p = nI 0 from c1)] at q
    repeat refine VV.s rfl ?_
    refine VV.ldiv rfl hg ?_
    exact VV.r rfl q
end GC
