/-! Tapes; rows of longs filled and copied -/
theorem c_fill {S : Cl} {τ : Nat → Int32} {A : Nat → Nat → Int32} {B : Nat → Nat → Int64} {d a : Nat} {Q : Option Value → Hp → Prop} (ha : (lkp tabJ a).isSome = true) {x : Int64} (q : ∀ E, (∀ j, j < lenJ a → E j = x) → Q none (HH S τ A (up B a E))) : CC d M_Arrays_fill [.ref a, .long x] (HH S τ A B) Q := by
  have hl := lenJ_le a
  have V := VV.inv (fun k (E : Nat → Int64) => ∀ j, j < k → E j = x) (fun k E => VV d M_Arrays_fill 6 [some (.ref a), some (.long x), none, some (.int (nI k)), some (.int (nI (lenJ a)))] [] (HH S τ A (up B a E)) Q) (lenJ a) ?_ ?_ (lenJ a) 0 (B a) (by omega) (by intro j hj; omega)
  · rw [up_id] at V
    refine CC.of rfl ?_
    repeat (first | exact V | refine VV.jl rfl ha ?_ | refine VV.add rfl ?_ | refine VV.inc rfl rfl rfl ?_ | refine VV.mul rfl ?_ | refine VV.sub rfl (by omega) ?_ | refine VV.shl1 rfl (by omega) ?_ | refine VV.shl rfl ⟨by omega, by omega⟩ ?_ | refine VV.shr rfl ⟨by omega, by omega⟩ ?_ | refine VV.and rfl ?_ | refine VV.div rfl ⟨by omega, by omega, by omega⟩ ?_ | refine VV.rem rfl ⟨by omega, by omega, by omega⟩ ?_ | refine VV.s rfl ?_  | refine VV.b (b_ltT (by omega) (by omega)) ?_ | refine VV.b (b_ltF (by omega) (by omega)) ?_ | refine VV.b (b_geT (by omega) (by omega)) ?_ | refine VV.b (b_geF (by omega) (by omega)) ?_ | refine VV.b (b_gtT (by omega) (by omega)) ?_ | refine VV.b (b_gtF (by omega) (by omega)) ?_ | refine VV.b (b_leT (by omega) (by omega)) ?_ | refine VV.b (b_leF (by omega) (by omega)) ?_ | refine VV.b (b_eqT (by omega) (by omega)) ?_ | refine VV.b (b_eqF (by omega) (by omega)) ?_ | refine VV.b (b_neT (by omega) (by omega)) ?_ | refine VV.b (b_neF (by omega) (by omega)) ?_)
  · intro k E hk hI nxt
    have := nxt (up E k x) (fun j hj => by
      by_cases e : j = k
      · rw [e, up_s]
      · rw [up_n e]; exact hI j (by omega))
    repeat (first | refine VV.add rfl ?_ | refine VV.inc rfl rfl rfl ?_ | refine VV.mul rfl ?_ | refine VV.sub rfl (by omega) ?_ | refine VV.shl1 rfl (by omega) ?_ | refine VV.shl rfl ⟨by omega, by omega⟩ ?_ | refine VV.shr rfl ⟨by omega, by omega⟩ ?_ | refine VV.and rfl ?_ | refine VV.div rfl ⟨by omega, by omega, by omega⟩ ?_ | refine VV.rem rfl ⟨by omega, by omega, by omega⟩ ?_ | refine VV.s rfl ?_  | refine VV.b (b_ltT (by omega) (by omega)) ?_ | refine VV.b (b_ltF (by omega) (by omega)) ?_ | refine VV.b (b_geT (by omega) (by omega)) ?_ | refine VV.b (b_geF (by omega) (by omega)) ?_ | refine VV.b (b_gtT (by omega) (by omega)) ?_ | refine VV.b (b_gtF (by omega) (by omega)) ?_ | refine VV.b (b_leT (by omega) (by omega)) ?_ | refine VV.b (b_leF (by omega) (by omega)) ?_ | refine VV.b (b_eqT (by omega) (by omega)) ?_ | refine VV.b (b_eqF (by omega) (by omega)) ?_ | refine VV.b (b_neT (by omega) (by omega)) ?_ | refine VV.b (b_neF (by omega) (by omega)) ?_)
    refine VV.js rfl ha rfl hk ?_
    rw [up_up, up_s]
    repeat (first | exact this | refine VV.add rfl ?_ | refine VV.inc rfl rfl rfl ?_ | refine VV.mul rfl ?_ | refine VV.sub rfl (by omega) ?_ | refine VV.shl1 rfl (by omega) ?_ | refine VV.shl rfl ⟨by omega, by omega⟩ ?_ | refine VV.shr rfl ⟨by omega, by omega⟩ ?_ | refine VV.and rfl ?_ | refine VV.div rfl ⟨by omega, by omega, by omega⟩ ?_ | refine VV.rem rfl ⟨by omega, by omega, by omega⟩ ?_ | refine VV.s rfl ?_  | refine VV.b (b_ltT (by omega) (by omega)) ?_ | refine VV.b (b_ltF (by omega) (by omega)) ?_ | refine VV.b (b_geT (by omega) (by omega)) ?_ | refine VV.b (b_geF (by omega) (by omega)) ?_ | refine VV.b (b_gtT (by omega) (by omega)) ?_ | refine VV.b (b_gtF (by omega) (by omega)) ?_ | refine VV.b (b_leT (by omega) (by omega)) ?_ | refine VV.b (b_leF (by omega) (by omega)) ?_ | refine VV.b (b_eqT (by omega) (by omega)) ?_ | refine VV.b (b_eqF (by omega) (by omega)) ?_ | refine VV.b (b_neT (by omega) (by omega)) ?_ | refine VV.b (b_neF (by omega) (by omega)) ?_)
  · intro E hI
    have := q E hI
    repeat (first | refine VV.add rfl ?_ | refine VV.inc rfl rfl rfl ?_ | refine VV.mul rfl ?_ | refine VV.sub rfl (by omega) ?_ | refine VV.shl1 rfl (by omega) ?_ | refine VV.shl rfl ⟨by omega, by omega⟩ ?_ | refine VV.shr rfl ⟨by omega, by omega⟩ ?_ | refine VV.and rfl ?_ | refine VV.div rfl ⟨by omega, by omega, by omega⟩ ?_ | refine VV.rem rfl ⟨by omega, by omega, by omega⟩ ?_ | refine VV.s rfl ?_  | refine VV.b (b_ltT (by omega) (by omega)) ?_ | refine VV.b (b_ltF (by omega) (by omega)) ?_ | refine VV.b (b_geT (by omega) (by omega)) ?_ | refine VV.b (b_geF (by omega) (by omega)) ?_ | refine VV.b (b_gtT (by omega) (by omega)) ?_ | refine VV.b (b_gtF (by omega) (by omega)) ?_ | refine VV.b (b_leT (by omega) (by omega)) ?_ | refine VV.b (b_leF (by omega) (by omega)) ?_ | refine VV.b (b_eqT (by omega) (by omega)) ?_ | refine VV.b (b_eqF (by omega) (by omega)) ?_ | refine VV.b (b_neT (by omega) (by omega)) ?_ | refine VV.b (b_neF (by omega) (by omega)) ?_)
    exact VV.r rfl this
def cpf (f : Nat → Int64) (sp dp : Nat) : Nat → (Nat → Int64) → (Nat → Int64)
  | 0, g => g
  | n + 1, g => up (cpf f sp dp n g) (dp + n) (f (sp + n))
theorem cpf_at (f : Nat → Int64) (sp dp : Nat) : ∀ (n : Nat) (g : Nat → Int64) (j : Nat), cpf f sp dp n g j = if dp ≤ j ∧ j < dp + n then f (sp + (j - dp)) else g j
  | 0, g, j => by rw [cpf, if_neg (by omega)]
  | n + 1, g, j => by
    rw [cpf]
    by_cases e : j = dp + n
    · subst e
      rw [up_s, if_pos (by omega)]
      congr 1
      omega
    · rw [up_n e, cpf_at f sp dp n g j]
      by_cases c : dp ≤ j ∧ j < dp + n
      · rw [if_pos c, if_pos (by omega)]
      · rw [if_neg c, if_neg (by omega)]
theorem cpV_mk {f g : Nat → Int64} {la lb sp dp : Nat} : ∀ {n : Nat}, sp + n ≤ la → dp + n ≤ lb → cpyV (mkJ la f) sp dp n (mkJ lb g) = mkJ lb (cpf f sp dp n g)
  | 0, _, _ => rfl
  | n + 1, h1, h2 => by
    rw [cpyV, cpV_mk (n := n) (by omega) (by omega), mkJ_nth f (show sp + n < la by omega)]
    exact mkJ_set _ _ (by omega)
theorem VV.cp {d u pc nx a b i n sp dp : Nat} {ng : Bool} {sw : List (Nat × Nat)} {L : Lc} {r : List Value} {S : Cl} {τ : Nat → Int32} {A : Nat → Nat → Int32} {B : Nat → Nat → Int64} {Q : Option Value → Hp → Prop} (e : codeAt u pc = some (.invokestatic i, nx, 999, ng, sw)) (ha : (lkp tabJ a).isSome = true) (hb : (lkp tabJ b).isSome = true) (h1 : sp + n ≤ lenJ a) (h2 : dp + n ≤ lenJ b) (hc : catS r ≤ 8) (g : VV d u nx L r (HH S τ A (up B b (cpf (B a) sp dp n (B b)))) Q) : VV d u pc L (.int (nI n) :: .int (nI dp) :: .ref b :: .int (nI sp) :: .ref a :: r) (HH S τ A B) Q := by
  have l1 := lenJ_le a
  have l2 := lenJ_le b
  refine VV.s ?_ g
  have h8 : Nat.ble (catS r) 8 = true := Nat.ble_eq_true_of_le hc
  have z1 : ¬ (nI n < 0 ∨ nI sp < 0 ∨ nI dp < 0) := by
    rintro (z | z | z)
    · exact nI_pos (by omega) z
    · exact nI_pos (by omega) z
    · exact nI_pos (by omega) z
  have b1 : Nat.ble (sp + n) (lenJ a) = true := Nat.ble_eq_true_of_le h1
  have b2 : Nat.ble (dp + n) (lenJ b) = true := Nat.ble_eq_true_of_le h2
  simp only [stp, e, kindI, stepI, s_nat, s_copy, rdJ S τ A B ha, rdJ S τ A B hb, h8, mkJ_len, nI_clamp (show n < 2 ^ 31 by omega), nI_clamp (show sp < 2 ^ 31 by omega), nI_clamp (show dp < 2 ^ 31 by omega), b1, b2, cpV_mk h1 h2, wrJ S τ A B hb, if_neg z1]
  rfl
/-- there are so many places from there on -/
def hpB (h : Nat) (x y : Int32) : Bool := !(decide (x < nI 0)) && (!(decide (y < nI 0)) && decide (x.toNatClampNeg + y.toNatClampNeg ≤ h))
theorem hpB_nI {h k l : Nat} (hk : k < 2147483648) (hl : l < 2147483648) : hpB h (nI k) (nI l) = decide (k + l ≤ h) := by
  unfold hpB
  rw [nI_clamp (by omega), nI_clamp (by omega), decide_eq_false (fun z => absurd ((nI_ltI hk (by omega)).mp z) (by omega)), decide_eq_false (fun z => absurd ((nI_ltI hl (by omega)).mp z) (by omega))]
  rfl
theorem hpB_negx {h : Nat} {x y : Int32} (hx : x < nI 0) : hpB h x y = false := by
  unfold hpB
  rw [decide_eq_true hx]
  rfl
theorem hpB_negy {h : Nat} {x y : Int32} (hy : y < nI 0) : hpB h x y = false := by
  unfold hpB
  rw [decide_eq_true hy]
  cases decide (x < nI 0) <;> rfl
theorem hpB_spec {h : Nat} {x y : Int32} (e : hpB h x y = true) : ∃ k l, x = nI k ∧ y = nI l ∧ k + l ≤ h := by
  rcases nI_or x with hx | ⟨k, hk, rfl⟩
  · rw [hpB_negx hx] at e; cases e
  · rcases nI_or y with hy | ⟨l, hl, rfl⟩
    · rw [hpB_negy hy] at e; cases e
    · rw [hpB_nI hk hl] at e
      exact ⟨k, l, rfl, rfl, of_decide_eq_true e⟩
/-- what a tape of that sort keeps of a long -/
def kpv (s : Nat) (v : Int64) : Int64 := match s with
  | 0 => v.toInt32.toInt8.toInt32.toInt64
  | 1 => v.toInt32.toInt16.toInt32.toInt64
  | 2 => v.toInt32.toInt64
  | 3 => v
  | _ => if v = 0 then 0 else 1
/-- how a sort is written in a tape -/
def sI (s : Nat) : Int32 := nI s - nI 1
section TP
variable {S : Cl} {τ : Nat → Int32} {A : Nat → Nat → Int32} {B : Nat → Nat → Int64}
variable {d o h s : Nat} {Q : Option Value → Hp → Prop}
theorem ct_sort (ho : (lkp tabT o).isSome = true) (q : Q (some (.int (τ (100 * o + 1)))) (HH S τ A B)) : CC d M_Tape_sort [.ref o] (HH S τ A B) Q := by
  refine CC.of rfl ?_
  repeat (first | refine VV.add rfl ?_ | refine VV.inc rfl rfl rfl ?_ | refine VV.mul rfl ?_ | refine VV.sub rfl (by omega) ?_ | refine VV.shl1 rfl (by omega) ?_ | refine VV.shl rfl ⟨by omega, by omega⟩ ?_ | refine VV.shr rfl ⟨by omega, by omega⟩ ?_ | refine VV.and rfl ?_ | refine VV.div rfl ⟨by omega, by omega, by omega⟩ ?_ | refine VV.rem rfl ⟨by omega, by omega, by omega⟩ ?_ | refine VV.s rfl ?_ | refine VV.g rfl (rdT ho).1 rfl ?_ | refine VV.b (b_ltT (by omega) (by omega)) ?_ | refine VV.b (b_ltF (by omega) (by omega)) ?_ | refine VV.b (b_geT (by omega) (by omega)) ?_ | refine VV.b (b_geF (by omega) (by omega)) ?_ | refine VV.b (b_gtT (by omega) (by omega)) ?_ | refine VV.b (b_gtF (by omega) (by omega)) ?_ | refine VV.b (b_leT (by omega) (by omega)) ?_ | refine VV.b (b_leF (by omega) (by omega)) ?_ | refine VV.b (b_eqT (by omega) (by omega)) ?_ | refine VV.b (b_eqF (by omega) (by omega)) ?_ | refine VV.b (b_neT (by omega) (by omega)) ?_ | refine VV.b (b_neF (by omega) (by omega)) ?_)
  exact VV.r rfl q
theorem ct_become (ho : (lkp tabT o).isSome = true) {x y : Int32} (q : ∀ E, (∀ j, j < 60 → E j = 0) → Q none (HH S (up (up τ (100 * o + 1) x) (100 * o + 2) y) A (up B (o + 1) E))) : CC (d + 1) M_Tape_become [.ref o, .int x, .int y] (HH S τ A B) Q := by
  have hl := (rdT (S := S) (τ := τ) (A := A) (B := B) ho).2.2.1
  have ha := (rdT (S := S) (τ := τ) (A := A) (B := B) ho).2.1
  refine CC.of rfl ?_
  refine VV.s rfl ?_
  refine VV.s rfl ?_
  refine VV.p rfl (rdT ho).1 (show 1 < 3 by omega) rfl ((rdT ho).2.2.2.1 _) ?_
  refine VV.s rfl ?_
  refine VV.s rfl ?_
  refine VV.p rfl (rdT ho).1 (show 2 < 3 by omega) rfl ((rdT ho).2.2.2.2 _) ?_
  repeat (first | refine VV.add rfl ?_ | refine VV.inc rfl rfl rfl ?_ | refine VV.mul rfl ?_ | refine VV.sub rfl (by omega) ?_ | refine VV.shl1 rfl (by omega) ?_ | refine VV.shl rfl ⟨by omega, by omega⟩ ?_ | refine VV.shr rfl ⟨by omega, by omega⟩ ?_ | refine VV.and rfl ?_ | refine VV.div rfl ⟨by omega, by omega, by omega⟩ ?_ | refine VV.rem rfl ⟨by omega, by omega, by omega⟩ ?_ | refine VV.s rfl ?_ | refine VV.g rfl (rdT ho).1 rfl ?_ | refine VV.b (b_ltT (by omega) (by omega)) ?_ | refine VV.b (b_ltF (by omega) (by omega)) ?_ | refine VV.b (b_geT (by omega) (by omega)) ?_ | refine VV.b (b_geF (by omega) (by omega)) ?_ | refine VV.b (b_gtT (by omega) (by omega)) ?_ | refine VV.b (b_gtF (by omega) (by omega)) ?_ | refine VV.b (b_leT (by omega) (by omega)) ?_ | refine VV.b (b_leF (by omega) (by omega)) ?_ | refine VV.b (b_eqT (by omega) (by omega)) ?_ | refine VV.b (b_eqF (by omega) (by omega)) ?_ | refine VV.b (b_neT (by omega) (by omega)) ?_ | refine VV.b (b_neF (by omega) (by omega)) ?_)
  (refine VV.c rfl ?_; refine c_fill ha (fun E hE => ?_))
  repeat refine VV.s rfl ?_
  exact VV.r rfl (q E (fun j hj => hE j (by omega)))
theorem ct_hasPlaces (ho : (lkp tabT o).isSome = true) (hh : τ (100 * o + 2) = nI h) (h60 : h ≤ 60) {x y : Int32} (q : Q (some (.int (bI (hpB h x y)))) (HH S τ A B)) : CC d M_Tape_hasPlaces [.ref o, .int x, .int y] (HH S τ A B) Q := by
  refine CC.of rfl ?_
  rcases nI_or x with hx | ⟨k, hk, rfl⟩
  · rw [hpB_negx hx] at q
    repeat refine VV.s rfl ?_
    refine VV.t hx ?_
    repeat refine VV.s rfl ?_
    exact VV.r rfl q
  · rcases nI_or y with hy | ⟨l, hl, rfl⟩
    · rw [hpB_negy hy] at q
      refine VV.s rfl ?_
      refine VV.s rfl ?_
      refine VV.b (b_ltF (by omega) (by omega)) ?_
      refine VV.s rfl ?_
      refine VV.s rfl ?_
      refine VV.t hy ?_
      repeat refine VV.s rfl ?_
      exact VV.r rfl q
    · rw [hpB_nI hk hl] at q
      by_cases c0 : k ≤ h
      · by_cases c : k + l ≤ h
        · rw [decide_eq_true c] at q
          repeat (first | refine VV.gn rfl (rdT ho).1 rfl hh ?_ | refine VV.add rfl ?_ | refine VV.inc rfl rfl rfl ?_ | refine VV.mul rfl ?_ | refine VV.sub rfl (by omega) ?_ | refine VV.shl1 rfl (by omega) ?_ | refine VV.shl rfl ⟨by omega, by omega⟩ ?_ | refine VV.shr rfl ⟨by omega, by omega⟩ ?_ | refine VV.and rfl ?_ | refine VV.div rfl ⟨by omega, by omega, by omega⟩ ?_ | refine VV.rem rfl ⟨by omega, by omega, by omega⟩ ?_ | refine VV.s rfl ?_  | refine VV.b (b_ltT (by omega) (by omega)) ?_ | refine VV.b (b_ltF (by omega) (by omega)) ?_ | refine VV.b (b_geT (by omega) (by omega)) ?_ | refine VV.b (b_geF (by omega) (by omega)) ?_ | refine VV.b (b_gtT (by omega) (by omega)) ?_ | refine VV.b (b_gtF (by omega) (by omega)) ?_ | refine VV.b (b_leT (by omega) (by omega)) ?_ | refine VV.b (b_leF (by omega) (by omega)) ?_ | refine VV.b (b_eqT (by omega) (by omega)) ?_ | refine VV.b (b_eqF (by omega) (by omega)) ?_ | refine VV.b (b_neT (by omega) (by omega)) ?_ | refine VV.b (b_neF (by omega) (by omega)) ?_)
          exact VV.r rfl q
        · rw [decide_eq_false c] at q
          repeat (first | refine VV.gn rfl (rdT ho).1 rfl hh ?_ | refine VV.add rfl ?_ | refine VV.inc rfl rfl rfl ?_ | refine VV.mul rfl ?_ | refine VV.sub rfl (by omega) ?_ | refine VV.shl1 rfl (by omega) ?_ | refine VV.shl rfl ⟨by omega, by omega⟩ ?_ | refine VV.shr rfl ⟨by omega, by omega⟩ ?_ | refine VV.and rfl ?_ | refine VV.div rfl ⟨by omega, by omega, by omega⟩ ?_ | refine VV.rem rfl ⟨by omega, by omega, by omega⟩ ?_ | refine VV.s rfl ?_  | refine VV.b (b_ltT (by omega) (by omega)) ?_ | refine VV.b (b_ltF (by omega) (by omega)) ?_ | refine VV.b (b_geT (by omega) (by omega)) ?_ | refine VV.b (b_geF (by omega) (by omega)) ?_ | refine VV.b (b_gtT (by omega) (by omega)) ?_ | refine VV.b (b_gtF (by omega) (by omega)) ?_ | refine VV.b (b_leT (by omega) (by omega)) ?_ | refine VV.b (b_leF (by omega) (by omega)) ?_ | refine VV.b (b_eqT (by omega) (by omega)) ?_ | refine VV.b (b_eqF (by omega) (by omega)) ?_ | refine VV.b (b_neT (by omega) (by omega)) ?_ | refine VV.b (b_neF (by omega) (by omega)) ?_)
          exact VV.r rfl q
      · rw [decide_eq_false (by omega)] at q
        repeat (first | refine VV.gn rfl (rdT ho).1 rfl hh ?_ | refine VV.add rfl ?_ | refine VV.inc rfl rfl rfl ?_ | refine VV.mul rfl ?_ | refine VV.sub rfl (by omega) ?_ | refine VV.shl1 rfl (by omega) ?_ | refine VV.shl rfl ⟨by omega, by omega⟩ ?_ | refine VV.shr rfl ⟨by omega, by omega⟩ ?_ | refine VV.and rfl ?_ | refine VV.div rfl ⟨by omega, by omega, by omega⟩ ?_ | refine VV.rem rfl ⟨by omega, by omega, by omega⟩ ?_ | refine VV.s rfl ?_  | refine VV.b (b_ltT (by omega) (by omega)) ?_ | refine VV.b (b_ltF (by omega) (by omega)) ?_ | refine VV.b (b_geT (by omega) (by omega)) ?_ | refine VV.b (b_geF (by omega) (by omega)) ?_ | refine VV.b (b_gtT (by omega) (by omega)) ?_ | refine VV.b (b_gtF (by omega) (by omega)) ?_ | refine VV.b (b_leT (by omega) (by omega)) ?_ | refine VV.b (b_leF (by omega) (by omega)) ?_ | refine VV.b (b_eqT (by omega) (by omega)) ?_ | refine VV.b (b_eqF (by omega) (by omega)) ?_ | refine VV.b (b_neT (by omega) (by omega)) ?_ | refine VV.b (b_neF (by omega) (by omega)) ?_)
        exact VV.r rfl q
theorem ct_at (ho : (lkp tabT o).isSome = true) (hh : τ (100 * o + 2) = nI h) (h60 : h ≤ 60) {k : Nat} (hk : k < h) (q : Q (some (.long (B (o + 1) k))) (HH S τ A B)) : CC d M_Tape_at [.ref o, .int (nI k)] (HH S τ A B) Q := by
  have hl := (rdT (S := S) (τ := τ) (A := A) (B := B) ho).2.2.1
  have ha := (rdT (S := S) (τ := τ) (A := A) (B := B) ho).2.1
  refine CC.of rfl ?_
  repeat (first | refine VV.gn rfl (rdT ho).1 rfl hh ?_ | refine VV.g rfl (rdT ho).1 rfl ?_ | refine VV.jln rfl ha hl ?_ | refine VV.add rfl ?_ | refine VV.inc rfl rfl rfl ?_ | refine VV.mul rfl ?_ | refine VV.sub rfl (by omega) ?_ | refine VV.shl1 rfl (by omega) ?_ | refine VV.shl rfl ⟨by omega, by omega⟩ ?_ | refine VV.shr rfl ⟨by omega, by omega⟩ ?_ | refine VV.and rfl ?_ | refine VV.div rfl ⟨by omega, by omega, by omega⟩ ?_ | refine VV.rem rfl ⟨by omega, by omega, by omega⟩ ?_ | refine VV.s rfl ?_  | refine VV.b (b_ltT (by omega) (by omega)) ?_ | refine VV.b (b_ltF (by omega) (by omega)) ?_ | refine VV.b (b_geT (by omega) (by omega)) ?_ | refine VV.b (b_geF (by omega) (by omega)) ?_ | refine VV.b (b_gtT (by omega) (by omega)) ?_ | refine VV.b (b_gtF (by omega) (by omega)) ?_ | refine VV.b (b_leT (by omega) (by omega)) ?_ | refine VV.b (b_leF (by omega) (by omega)) ?_ | refine VV.b (b_eqT (by omega) (by omega)) ?_ | refine VV.b (b_eqF (by omega) (by omega)) ?_ | refine VV.b (b_neT (by omega) (by omega)) ?_ | refine VV.b (b_neF (by omega) (by omega)) ?_)
  refine VV.ja rfl ha rfl (by omega) ?_
  repeat refine VV.s rfl ?_
  exact VV.r rfl q
theorem ct_cut (ho : (lkp tabT o).isSome = true) (hs : τ (100 * o + 1) = nI s) (h4 : s ≤ 4) {v : Int64} (q : Q (some (.long (kpv s v))) (HH S τ A B)) : CC d M_Tape_cut [.ref o, .long v] (HH S τ A B) Q := by
  refine CC.of rfl ?_
  rcases (show s = 0 ∨ s = 1 ∨ s = 2 ∨ s = 3 ∨ s = 4 by omega) with rfl | rfl | rfl | rfl | rfl
  · repeat (first | refine VV.gn rfl (rdT ho).1 rfl hs ?_ | refine VV.add rfl ?_ | refine VV.inc rfl rfl rfl ?_ | refine VV.mul rfl ?_ | refine VV.sub rfl (by omega) ?_ | refine VV.shl1 rfl (by omega) ?_ | refine VV.shl rfl ⟨by omega, by omega⟩ ?_ | refine VV.shr rfl ⟨by omega, by omega⟩ ?_ | refine VV.and rfl ?_ | refine VV.div rfl ⟨by omega, by omega, by omega⟩ ?_ | refine VV.rem rfl ⟨by omega, by omega, by omega⟩ ?_ | refine VV.s rfl ?_  | refine VV.b (b_ltT (by omega) (by omega)) ?_ | refine VV.b (b_ltF (by omega) (by omega)) ?_ | refine VV.b (b_geT (by omega) (by omega)) ?_ | refine VV.b (b_geF (by omega) (by omega)) ?_ | refine VV.b (b_gtT (by omega) (by omega)) ?_ | refine VV.b (b_gtF (by omega) (by omega)) ?_ | refine VV.b (b_leT (by omega) (by omega)) ?_ | refine VV.b (b_leF (by omega) (by omega)) ?_ | refine VV.b (b_eqT (by omega) (by omega)) ?_ | refine VV.b (b_eqF (by omega) (by omega)) ?_ | refine VV.b (b_neT (by omega) (by omega)) ?_ | refine VV.b (b_neF (by omega) (by omega)) ?_)
    exact VV.r rfl q
  · repeat (first | refine VV.gn rfl (rdT ho).1 rfl hs ?_ | refine VV.add rfl ?_ | refine VV.inc rfl rfl rfl ?_ | refine VV.mul rfl ?_ | refine VV.sub rfl (by omega) ?_ | refine VV.shl1 rfl (by omega) ?_ | refine VV.shl rfl ⟨by omega, by omega⟩ ?_ | refine VV.shr rfl ⟨by omega, by omega⟩ ?_ | refine VV.and rfl ?_ | refine VV.div rfl ⟨by omega, by omega, by omega⟩ ?_ | refine VV.rem rfl ⟨by omega, by omega, by omega⟩ ?_ | refine VV.s rfl ?_  | refine VV.b (b_ltT (by omega) (by omega)) ?_ | refine VV.b (b_ltF (by omega) (by omega)) ?_ | refine VV.b (b_geT (by omega) (by omega)) ?_ | refine VV.b (b_geF (by omega) (by omega)) ?_ | refine VV.b (b_gtT (by omega) (by omega)) ?_ | refine VV.b (b_gtF (by omega) (by omega)) ?_ | refine VV.b (b_leT (by omega) (by omega)) ?_ | refine VV.b (b_leF (by omega) (by omega)) ?_ | refine VV.b (b_eqT (by omega) (by omega)) ?_ | refine VV.b (b_eqF (by omega) (by omega)) ?_ | refine VV.b (b_neT (by omega) (by omega)) ?_ | refine VV.b (b_neF (by omega) (by omega)) ?_)
    exact VV.r rfl q
  · repeat (first | refine VV.gn rfl (rdT ho).1 rfl hs ?_ | refine VV.add rfl ?_ | refine VV.inc rfl rfl rfl ?_ | refine VV.mul rfl ?_ | refine VV.sub rfl (by omega) ?_ | refine VV.shl1 rfl (by omega) ?_ | refine VV.shl rfl ⟨by omega, by omega⟩ ?_ | refine VV.shr rfl ⟨by omega, by omega⟩ ?_ | refine VV.and rfl ?_ | refine VV.div rfl ⟨by omega, by omega, by omega⟩ ?_ | refine VV.rem rfl ⟨by omega, by omega, by omega⟩ ?_ | refine VV.s rfl ?_  | refine VV.b (b_ltT (by omega) (by omega)) ?_ | refine VV.b (b_ltF (by omega) (by omega)) ?_ | refine VV.b (b_geT (by omega) (by omega)) ?_ | refine VV.b (b_geF (by omega) (by omega)) ?_ | refine VV.b (b_gtT (by omega) (by omega)) ?_ | refine VV.b (b_gtF (by omega) (by omega)) ?_ | refine VV.b (b_leT (by omega) (by omega)) ?_ | refine VV.b (b_leF (by omega) (by omega)) ?_ | refine VV.b (b_eqT (by omega) (by omega)) ?_ | refine VV.b (b_eqF (by omega) (by omega)) ?_ | refine VV.b (b_neT (by omega) (by omega)) ?_ | refine VV.b (b_neF (by omega) (by omega)) ?_)
    exact VV.r rfl q
  · repeat (first | refine VV.gn rfl (rdT ho).1 rfl hs ?_ | refine VV.add rfl ?_ | refine VV.inc rfl rfl rfl ?_ | refine VV.mul rfl ?_ | refine VV.sub rfl (by omega) ?_ | refine VV.shl1 rfl (by omega) ?_ | refine VV.shl rfl ⟨by omega, by omega⟩ ?_ | refine VV.shr rfl ⟨by omega, by omega⟩ ?_ | refine VV.and rfl ?_ | refine VV.div rfl ⟨by omega, by omega, by omega⟩ ?_ | refine VV.rem rfl ⟨by omega, by omega, by omega⟩ ?_ | refine VV.s rfl ?_  | refine VV.b (b_ltT (by omega) (by omega)) ?_ | refine VV.b (b_ltF (by omega) (by omega)) ?_ | refine VV.b (b_geT (by omega) (by omega)) ?_ | refine VV.b (b_geF (by omega) (by omega)) ?_ | refine VV.b (b_gtT (by omega) (by omega)) ?_ | refine VV.b (b_gtF (by omega) (by omega)) ?_ | refine VV.b (b_leT (by omega) (by omega)) ?_ | refine VV.b (b_leF (by omega) (by omega)) ?_ | refine VV.b (b_eqT (by omega) (by omega)) ?_ | refine VV.b (b_eqF (by omega) (by omega)) ?_ | refine VV.b (b_neT (by omega) (by omega)) ?_ | refine VV.b (b_neF (by omega) (by omega)) ?_)
    exact VV.r rfl q
  · have hq : kpv 4 v = if v = 0 then 0 else 1 := rfl
    rw [hq] at q
    repeat (first | refine VV.gn rfl (rdT ho).1 rfl hs ?_ | refine VV.add rfl ?_ | refine VV.inc rfl rfl rfl ?_ | refine VV.mul rfl ?_ | refine VV.sub rfl (by omega) ?_ | refine VV.shl1 rfl (by omega) ?_ | refine VV.shl rfl ⟨by omega, by omega⟩ ?_ | refine VV.shr rfl ⟨by omega, by omega⟩ ?_ | refine VV.and rfl ?_ | refine VV.div rfl ⟨by omega, by omega, by omega⟩ ?_ | refine VV.rem rfl ⟨by omega, by omega, by omega⟩ ?_ | refine VV.s rfl ?_  | refine VV.b (b_ltT (by omega) (by omega)) ?_ | refine VV.b (b_ltF (by omega) (by omega)) ?_ | refine VV.b (b_geT (by omega) (by omega)) ?_ | refine VV.b (b_geF (by omega) (by omega)) ?_ | refine VV.b (b_gtT (by omega) (by omega)) ?_ | refine VV.b (b_gtF (by omega) (by omega)) ?_ | refine VV.b (b_leT (by omega) (by omega)) ?_ | refine VV.b (b_leF (by omega) (by omega)) ?_ | refine VV.b (b_eqT (by omega) (by omega)) ?_ | refine VV.b (b_eqF (by omega) (by omega)) ?_ | refine VV.b (b_neT (by omega) (by omega)) ?_ | refine VV.b (b_neF (by omega) (by omega)) ?_)
    refine VV.ceq0 (fun c => ?_) (fun c => ?_)
    · rw [if_pos c] at q
      repeat refine VV.s rfl ?_
      exact VV.r rfl q
    · rw [if_neg c] at q
      repeat refine VV.s rfl ?_
      exact VV.r rfl q
theorem ct_put (ho : (lkp tabT o).isSome = true) (hh : τ (100 * o + 2) = nI h) (h60 : h ≤ 60) (hs : τ (100 * o + 1) = nI s) (h4 : s ≤ 4) {k : Nat} (hk : k < h) {v : Int64} (q : Q none (HH S τ A (up B (o + 1) (up (B (o + 1)) k (kpv s v))))) : CC (d + 1) M_Tape_put [.ref o, .int (nI k), .long v] (HH S τ A B) Q := by
  have hl := (rdT (S := S) (τ := τ) (A := A) (B := B) ho).2.2.1
  have ha := (rdT (S := S) (τ := τ) (A := A) (B := B) ho).2.1
  refine CC.of rfl ?_
  repeat (first | refine VV.gn rfl (rdT ho).1 rfl hh ?_ | refine VV.g rfl (rdT ho).1 rfl ?_ | refine VV.jln rfl ha hl ?_ | refine VV.add rfl ?_ | refine VV.inc rfl rfl rfl ?_ | refine VV.mul rfl ?_ | refine VV.sub rfl (by omega) ?_ | refine VV.shl1 rfl (by omega) ?_ | refine VV.shl rfl ⟨by omega, by omega⟩ ?_ | refine VV.shr rfl ⟨by omega, by omega⟩ ?_ | refine VV.and rfl ?_ | refine VV.div rfl ⟨by omega, by omega, by omega⟩ ?_ | refine VV.rem rfl ⟨by omega, by omega, by omega⟩ ?_ | refine VV.s rfl ?_  | refine VV.b (b_ltT (by omega) (by omega)) ?_ | refine VV.b (b_ltF (by omega) (by omega)) ?_ | refine VV.b (b_geT (by omega) (by omega)) ?_ | refine VV.b (b_geF (by omega) (by omega)) ?_ | refine VV.b (b_gtT (by omega) (by omega)) ?_ | refine VV.b (b_gtF (by omega) (by omega)) ?_ | refine VV.b (b_leT (by omega) (by omega)) ?_ | refine VV.b (b_leF (by omega) (by omega)) ?_ | refine VV.b (b_eqT (by omega) (by omega)) ?_ | refine VV.b (b_eqF (by omega) (by omega)) ?_ | refine VV.b (b_neT (by omega) (by omega)) ?_ | refine VV.b (b_neF (by omega) (by omega)) ?_)
  (refine VV.cv rfl (rdT ho).1 ?_; refine ct_cut ho hs h4 ?_)
  refine VV.js rfl ha rfl (by omega) ?_
  repeat refine VV.s rfl ?_
  exact VV.r rfl q
theorem ct_copyItems (ho : (lkp tabT o).isSome = true) {p : Nat} (hp : (lkp tabT p).isSome = true) (hh : τ (100 * o + 2) = nI h) (h60 : h ≤ 60) {h2 : Nat} (hh2 : τ (100 * p + 2) = nI h2) (h602 : h2 ≤ 60) {i j m : Nat} (hi : i + m ≤ h) (hj : j + m ≤ h2) (q : Q none (HH S τ A (up B (p + 1) (cpf (B (o + 1)) i j m (B (p + 1)))))) : CC (d + 1) M_Tape_copyItems [.ref o, .int (nI i), .ref p, .int (nI j), .int (nI m)] (HH S τ A B) Q := by
  have hl := (rdT (S := S) (τ := τ) (A := A) (B := B) ho).2.2.1
  have ha := (rdT (S := S) (τ := τ) (A := A) (B := B) ho).2.1
  have hl2 := (rdT (S := S) (τ := τ) (A := A) (B := B) hp).2.2.1
  have ha2 := (rdT (S := S) (τ := τ) (A := A) (B := B) hp).2.1
  refine CC.of rfl ?_
  repeat (first | refine VV.g rfl (rdT ho).1 rfl ?_ | refine VV.g rfl (rdT hp).1 rfl ?_ | refine VV.jln rfl ha hl ?_ | refine VV.jln rfl ha2 hl2 ?_ | refine VV.add rfl ?_ | refine VV.inc rfl rfl rfl ?_ | refine VV.mul rfl ?_ | refine VV.sub rfl (by omega) ?_ | refine VV.shl1 rfl (by omega) ?_ | refine VV.shl rfl ⟨by omega, by omega⟩ ?_ | refine VV.shr rfl ⟨by omega, by omega⟩ ?_ | refine VV.and rfl ?_ | refine VV.div rfl ⟨by omega, by omega, by omega⟩ ?_ | refine VV.rem rfl ⟨by omega, by omega, by omega⟩ ?_ | refine VV.s rfl ?_  | refine VV.b (b_ltT (by omega) (by omega)) ?_ | refine VV.b (b_ltF (by omega) (by omega)) ?_ | refine VV.b (b_geT (by omega) (by omega)) ?_ | refine VV.b (b_geF (by omega) (by omega)) ?_ | refine VV.b (b_gtT (by omega) (by omega)) ?_ | refine VV.b (b_gtF (by omega) (by omega)) ?_ | refine VV.b (b_leT (by omega) (by omega)) ?_ | refine VV.b (b_leF (by omega) (by omega)) ?_ | refine VV.b (b_eqT (by omega) (by omega)) ?_ | refine VV.b (b_eqF (by omega) (by omega)) ?_ | refine VV.b (b_neT (by omega) (by omega)) ?_ | refine VV.b (b_neF (by omega) (by omega)) ?_)
  (refine VV.cv rfl (rdT ho).1 ?_; refine ct_hasPlaces ho hh h60 ?_)
  rw [hpB_nI (by omega) (by omega), decide_eq_true hi]
  show VV _ _ _ _ [.int (nI 1)] _ _
  repeat (first | refine VV.add rfl ?_ | refine VV.inc rfl rfl rfl ?_ | refine VV.mul rfl ?_ | refine VV.sub rfl (by omega) ?_ | refine VV.shl1 rfl (by omega) ?_ | refine VV.shl rfl ⟨by omega, by omega⟩ ?_ | refine VV.shr rfl ⟨by omega, by omega⟩ ?_ | refine VV.and rfl ?_ | refine VV.div rfl ⟨by omega, by omega, by omega⟩ ?_ | refine VV.rem rfl ⟨by omega, by omega, by omega⟩ ?_ | refine VV.s rfl ?_  | refine VV.b (b_ltT (by omega) (by omega)) ?_ | refine VV.b (b_ltF (by omega) (by omega)) ?_ | refine VV.b (b_geT (by omega) (by omega)) ?_ | refine VV.b (b_geF (by omega) (by omega)) ?_ | refine VV.b (b_gtT (by omega) (by omega)) ?_ | refine VV.b (b_gtF (by omega) (by omega)) ?_ | refine VV.b (b_leT (by omega) (by omega)) ?_ | refine VV.b (b_leF (by omega) (by omega)) ?_ | refine VV.b (b_eqT (by omega) (by omega)) ?_ | refine VV.b (b_eqF (by omega) (by omega)) ?_ | refine VV.b (b_neT (by omega) (by omega)) ?_ | refine VV.b (b_neF (by omega) (by omega)) ?_)
  (refine VV.cv rfl (rdT hp).1 ?_; refine ct_hasPlaces hp hh2 h602 ?_)
  rw [hpB_nI (by omega) (by omega), decide_eq_true hj]
  show VV _ _ _ _ [.int (nI 1)] _ _
  repeat (first | refine VV.g rfl (rdT ho).1 rfl ?_ | refine VV.g rfl (rdT hp).1 rfl ?_ | refine VV.add rfl ?_ | refine VV.inc rfl rfl rfl ?_ | refine VV.mul rfl ?_ | refine VV.sub rfl (by omega) ?_ | refine VV.shl1 rfl (by omega) ?_ | refine VV.shl rfl ⟨by omega, by omega⟩ ?_ | refine VV.shr rfl ⟨by omega, by omega⟩ ?_ | refine VV.and rfl ?_ | refine VV.div rfl ⟨by omega, by omega, by omega⟩ ?_ | refine VV.rem rfl ⟨by omega, by omega, by omega⟩ ?_ | refine VV.s rfl ?_  | refine VV.b (b_ltT (by omega) (by omega)) ?_ | refine VV.b (b_ltF (by omega) (by omega)) ?_ | refine VV.b (b_geT (by omega) (by omega)) ?_ | refine VV.b (b_geF (by omega) (by omega)) ?_ | refine VV.b (b_gtT (by omega) (by omega)) ?_ | refine VV.b (b_gtF (by omega) (by omega)) ?_ | refine VV.b (b_leT (by omega) (by omega)) ?_ | refine VV.b (b_leF (by omega) (by omega)) ?_ | refine VV.b (b_eqT (by omega) (by omega)) ?_ | refine VV.b (b_eqF (by omega) (by omega)) ?_ | refine VV.b (b_neT (by omega) (by omega)) ?_ | refine VV.b (b_neF (by omega) (by omega)) ?_)
  refine VV.cp rfl ha ha2 (by omega) (by omega) (by decide) ?_
  repeat refine VV.s rfl ?_
  exact VV.r rfl q
end TP
