/-! a Grid: its small methods -/
theorem VV.b {d u p q : Nat} {L : Lc} {st : List Value} {h : Hp} {Q : Option Value → Hp → Prop} (e : p = q) (t : VV d u q L st h Q) : VV d u p L st h Q := by rw [e]; exact t
section BR
variable {nx tg a b : Nat}
theorem b_ltT (hab : a < b) (hm : a < 2147483648 ∧ b < 2147483648) : b_icmp .lt nx tg (nI a) (nI b) = tg := if_pos ((nI_ltI hm.1 hm.2).mpr hab)
theorem b_ltF (hab : b ≤ a) (hm : a < 2147483648 ∧ b < 2147483648) : b_icmp .lt nx tg (nI a) (nI b) = nx := if_neg (fun z => absurd ((nI_ltI hm.1 hm.2).mp z) (by omega))
theorem b_geT (hab : b ≤ a) (hm : a < 2147483648 ∧ b < 2147483648) : b_icmp .ge nx tg (nI a) (nI b) = tg := if_neg (fun z => absurd ((nI_ltI hm.1 hm.2).mp z) (by omega))
theorem b_geF (hab : a < b) (hm : a < 2147483648 ∧ b < 2147483648) : b_icmp .ge nx tg (nI a) (nI b) = nx := if_pos ((nI_ltI hm.1 hm.2).mpr hab)
theorem b_gtT (hab : b < a) (hm : a < 2147483648 ∧ b < 2147483648) : b_icmp .gt nx tg (nI a) (nI b) = tg := if_pos ((nI_ltI hm.2 hm.1).mpr hab)
theorem b_gtF (hab : a ≤ b) (hm : a < 2147483648 ∧ b < 2147483648) : b_icmp .gt nx tg (nI a) (nI b) = nx := if_neg (fun z => absurd ((nI_ltI hm.2 hm.1).mp z) (by omega))
theorem b_leT (hab : a ≤ b) (hm : a < 2147483648 ∧ b < 2147483648) : b_icmp .le nx tg (nI a) (nI b) = tg := if_neg (fun z => absurd ((nI_ltI hm.2 hm.1).mp z) (by omega))
theorem b_leF (hab : b < a) (hm : a < 2147483648 ∧ b < 2147483648) : b_icmp .le nx tg (nI a) (nI b) = nx := if_pos ((nI_ltI hm.2 hm.1).mpr hab)
theorem b_eqT (hab : a = b) (hm : a < 2147483648 ∧ b < 2147483648) : b_icmp .eq nx tg (nI a) (nI b) = tg := if_pos ((nI_eq hm.1 hm.2).mpr hab)
theorem b_eqF (hab : ¬ a = b) (hm : a < 2147483648 ∧ b < 2147483648) : b_icmp .eq nx tg (nI a) (nI b) = nx := if_neg (fun z => hab ((nI_eq hm.1 hm.2).mp z))
theorem b_neT (hab : ¬ a = b) (hm : a < 2147483648 ∧ b < 2147483648) : b_icmp .ne nx tg (nI a) (nI b) = tg := if_neg (fun z => hab ((nI_eq hm.1 hm.2).mp z))
theorem b_neF (hab : a = b) (hm : a < 2147483648 ∧ b < 2147483648) : b_icmp .ne nx tg (nI a) (nI b) = nx := if_pos ((nI_eq hm.1 hm.2).mpr hab)
end BR
theorem VV.gn {d u pc nx k c z a i : Nat} {ng : Bool} {sw : List (Nat × Nat)} {L : Lc} {r fs : List Value} {h : Hp} {x y : Int32} {Q : Option Value → Hp → Prop} (e : codeAt u pc = some (.getfield i, nx, k, ng, (c, z) :: sw)) (hg : nth h a = some (c, fs)) (hv : nth fs k = some (.int x)) (hx : x = y) (g : VV d u nx L (.int y :: r) h Q) : VV d u pc L (.ref a :: r) h Q := VV.g e hg hv (by rw [hx]; exact g)
theorem nx_and (a b : Nat) : nI a &&& nI b = nI (a &&& b) := by
  apply Int32.toBitVec_inj.1
  show BitVec.ofNat 32 a &&& BitVec.ofNat 32 b = BitVec.ofNat 32 (a &&& b)
  apply BitVec.eq_of_getLsbD_eq
  intro i hi
  simp [hi]
theorem nx_xor (a b : Nat) : nI a ^^^ nI b = nI (a ^^^ b) := by
  apply Int32.toBitVec_inj.1
  show BitVec.ofNat 32 a ^^^ BitVec.ofNat 32 b = BitVec.ofNat 32 (a ^^^ b)
  apply BitVec.eq_of_getLsbD_eq
  intro i hi
  simp [hi]
theorem fin_shl : (List.range 16).all (fun x => (List.range 8).all (fun j => decide (shlI (nI x) (nI j) = nI (x * 2 ^ j)) && decide (shrI (nI x) (nI j) = nI (x / 2 ^ j)))) = true := by decide +kernel
theorem t_shl {x j : Nat} (hx : x < 16) (hj : j < 8) : shlI (nI x) (nI j) = nI (x * 2 ^ j) := by
  have := List.all_eq_true.mp (List.all_eq_true.mp fin_shl x (List.mem_range.mpr hx)) j (List.mem_range.mpr hj)
  simp only [Bool.and_eq_true, decide_eq_true_eq] at this
  exact this.1
theorem t_shr {x j : Nat} (hx : x < 16) (hj : j < 8) : shrI (nI x) (nI j) = nI (x / 2 ^ j) := by
  have := List.all_eq_true.mp (List.all_eq_true.mp fin_shl x (List.mem_range.mpr hx)) j (List.mem_range.mpr hj)
  simp only [Bool.and_eq_true, decide_eq_true_eq] at this
  exact this.2
section NR
variable {d u pc nx ax a b : Nat} {ng : Bool} {sw : List (Nat × Nat)} {L : Lc} {r : List Value} {h : Hp} {Q : Option Value → Hp → Prop}
theorem VV.add (e : codeAt u pc = some (.iadd, nx, ax, ng, sw)) (g : VV d u nx L (.int (nI (a + b)) :: r) h Q) : VV d u pc L (.int (nI b) :: .int (nI a) :: r) h Q := by
  rw [← nI_add] at g
  exact VV.s (by simp only [stp, e, kindI, stepI, s_ii]) g
theorem VV.mul (e : codeAt u pc = some (.imul, nx, ax, ng, sw)) (g : VV d u nx L (.int (nI (a * b)) :: r) h Q) : VV d u pc L (.int (nI b) :: .int (nI a) :: r) h Q := by
  rw [← pk_mul] at g
  exact VV.s (by simp only [stp, e, kindI, stepI, s_ii]) g
theorem VV.sub (e : codeAt u pc = some (.isub, nx, ax, ng, sw)) (hab : b ≤ a) (g : VV d u nx L (.int (nI (a - b)) :: r) h Q) : VV d u pc L (.int (nI b) :: .int (nI a) :: r) h Q := by
  rw [← pk_sub hab] at g
  exact VV.s (by simp only [stp, e, kindI, stepI, s_ii]) g
theorem VV.div (e : codeAt u pc = some (.idiv, nx, ax, ng, sw)) (hab : a < 2147483648 ∧ 0 < b ∧ b < 2147483648) (g : VV d u nx L (.int (nI (a / b)) :: r) h Q) : VV d u pc L (.int (nI b) :: .int (nI a) :: r) h Q := by
  rw [← pk_div hab.1 hab.2.1 hab.2.2] at g
  refine VV.s ?_ g
  simp only [stp, e, kindI, stepI, s_iid]
  rw [if_neg (nI_ne0 hab.2.1 hab.2.2)]
theorem VV.rem (e : codeAt u pc = some (.irem, nx, ax, ng, sw)) (hab : a < 2147483648 ∧ 0 < b ∧ b < 2147483648) (g : VV d u nx L (.int (nI (a % b)) :: r) h Q) : VV d u pc L (.int (nI b) :: .int (nI a) :: r) h Q := by
  rw [← pk_rem hab.1 hab.2.1 hab.2.2] at g
  refine VV.s ?_ g
  simp only [stp, e, kindI, stepI, s_iid]
  rw [if_neg (nI_ne0 hab.2.1 hab.2.2)]
  rfl
theorem VV.inc {i n z : Nat} {c : Int} (e : codeAt u pc = some (.iinc i c, nx, i, false, (n, z) :: sw)) (hl : nth L i = some (some (.int (nI a)))) (hk : okSt L i = true) (g : VV d u nx (st1 L i (.int (nI (a + n)))) r h Q) : VV d u pc L r h Q := by
  rw [← nI_add] at g
  refine VV.s ?_ g
  simp only [stp, e, kindI, stepI, s_inc, hl, ci, hk, cond_true]
theorem VV.and (e : codeAt u pc = some (.iand, nx, ax, ng, sw)) (g : VV d u nx L (.int (nI (a &&& b)) :: r) h Q) : VV d u pc L (.int (nI b) :: .int (nI a) :: r) h Q := by
  rw [← nx_and] at g
  exact VV.s (by simp only [stp, e, kindI, stepI, s_ii]) g
theorem VV.xor (e : codeAt u pc = some (.ixor, nx, ax, ng, sw)) (g : VV d u nx L (.int (nI (a ^^^ b)) :: r) h Q) : VV d u pc L (.int (nI b) :: .int (nI a) :: r) h Q := by
  rw [← nx_xor] at g
  exact VV.s (by simp only [stp, e, kindI, stepI, s_ii]) g
theorem VV.shl (e : codeAt u pc = some (.ishl, nx, ax, ng, sw)) (hab : a < 16 ∧ b < 8) (g : VV d u nx L (.int (nI (a * 2 ^ b)) :: r) h Q) : VV d u pc L (.int (nI b) :: .int (nI a) :: r) h Q := by
  rw [← t_shl hab.1 hab.2] at g
  exact VV.s (by simp only [stp, e, kindI, stepI, s_ii]) g
theorem VV.shl1 (e : codeAt u pc = some (.ishl, nx, ax, ng, sw)) (hab : b < 8) (g : VV d u nx L (.int (nI (2 ^ b)) :: r) h Q) : VV d u pc L (.int (nI b) :: .int (nI 1) :: r) h Q := VV.shl e ⟨by omega, hab⟩ (by rw [Nat.one_mul]; exact g)
theorem VV.shr (e : codeAt u pc = some (.ishr, nx, ax, ng, sw)) (hab : a < 16 ∧ b < 8) (g : VV d u nx L (.int (nI (a / 2 ^ b)) :: r) h Q) : VV d u pc L (.int (nI b) :: .int (nI a) :: r) h Q := by
  rw [← t_shr hab.1 hab.2] at g
  exact VV.s (by simp only [stp, e, kindI, stepI, s_ii]) g
end NR
/-- a call on an object that is known: what is on the stack -/
def cllv (u pc : Nat) (st : List Value) : Option (Nat × Nat × Nat × Nat × List Value × List Value) := match codeAt u pc with
  | some a => (match kindI a with
    | 1 => (match mi a.2.2.1 with
      | some (n, _, t :: _) => (match popN n st [] with
        | some (.ref o :: as, rest) => bif Nat.ble (catS rest) 8 then some (a.2.2.1, a.2.1, o, t, as, rest) else none
        | _ => none)
      | _ => none)
    | _ => none)
  | none => none
theorem VV.cv {d u pc u' nx o t : Nat} {L : Lc} {st as rest fs : List Value} {h : Hp} {Q : Option Value → Hp → Prop} (e : cllv u pc st = some (u', nx, o, t, as, rest)) (ho : nth h o = some (t, fs)) (g : CC d u' (.ref o :: as) h (fun v h' => VV (d + 1) u nx L (pushV v rest) h' Q)) : VV (d + 1) u pc L st h Q := by
  refine VV.c (args := .ref o :: as) (rest := rest) (nx := nx) ?_ g
  unfold cllv at e
  unfold cll
  cases hc : codeAt u pc with
  | none => rw [hc] at e; cases e
  | some a =>
    rw [hc] at e
    simp only at e ⊢
    split at e
    · rename_i hk
      rw [hk]
      simp only
      unfold zcall
      split at e
      · rename_i n m t' ts hm
        rw [hm]
        simp only
        split at e
        · rename_i o' as' rest' hp
          rw [hp]
          simp only [cond_eq_ite] at e ⊢
          split at e
          · rename_i hb
            simp only [Option.some.injEq, Prod.mk.injEq] at e
            obtain ⟨rfl, rfl, rfl, rfl, rfl, rfl⟩ := e
            have hr : recvOk (t' :: ts) (.ref o' :: as') h = true := by
              unfold recvOk
              simp only [ho]
              exact Nat.beq_refl t'
            rw [hr, hb]
            simp
          · cases e
        · cases e
      · cases e
    · cases e
theorem nI_or (x : Int32) : x < 0 ∨ ∃ k, k < 2147483648 ∧ x = nI k := by
  by_cases h : x < 0
  · exact Or.inl h
  · obtain ⟨j, h1, h2⟩ := nI_of h
    exact Or.inr ⟨j, h1, h2⟩
theorem c_rowOf {d : Nat} {x : Int32} {h : Hp} {Q : Option Value → Hp → Prop} (q : Q (some (.int (x / nI 10))) h) : CC d M_T_rowOf [.int x] h Q := by
  refine CC.of rfl ?_
  repeat refine VV.s rfl ?_
  exact VV.r rfl q
theorem c_columnOf {d : Nat} {x : Int32} {h : Hp} {Q : Option Value → Hp → Prop} (q : Q (some (.int (x - x / nI 10 * nI 10))) h) : CC d M_T_columnOf [.int x] h Q := by
  refine CC.of rfl ?_
  repeat refine VV.s rfl ?_
  exact VV.r rfl q
def bI (b : Bool) : Int32 := match b with
  | true => nI 1
  | false => nI 0
section GL
variable {S : Cl} {τ : Nat → Int32} {A : Nat → Nat → Int32} {B : Nat → Nat → Int64}
variable {d g n : Nat} {Q : Option Value → Hp → Prop}
theorem c_lines (hg : (lkp tabG g).isSome = true) (hn : τ (100 * g + 2) = nI n) (h4 : n ≤ 4) (q : Q (some (.int (nI n))) (HH S τ A B)) : CC d M_Grid_lines [.ref g] (HH S τ A B) Q := by
  refine CC.of rfl ?_
  repeat (first | refine VV.add rfl ?_ | refine VV.inc rfl rfl rfl ?_ | refine VV.mul rfl ?_ | refine VV.sub rfl (by omega) ?_ | refine VV.shl1 rfl (by omega) ?_ | refine VV.shl rfl ⟨by omega, by omega⟩ ?_ | refine VV.shr rfl ⟨by omega, by omega⟩ ?_ | refine VV.and rfl ?_ | refine VV.s rfl ?_ | refine VV.gn rfl (rdG hg).1 rfl hn ?_ | refine VV.g rfl (rdG hg).1 rfl ?_ | refine VV.b (b_ltT (by omega) (by omega)) ?_ | refine VV.b (b_ltF (by omega) (by omega)) ?_ | refine VV.b (b_geT (by omega) (by omega)) ?_ | refine VV.b (b_geF (by omega) (by omega)) ?_ | refine VV.b (b_gtT (by omega) (by omega)) ?_ | refine VV.b (b_gtF (by omega) (by omega)) ?_ | refine VV.b (b_leT (by omega) (by omega)) ?_ | refine VV.b (b_leF (by omega) (by omega)) ?_ | refine VV.b (b_eqT (by omega) (by omega)) ?_ | refine VV.b (b_eqF (by omega) (by omega)) ?_ | refine VV.b (b_neT (by omega) (by omega)) ?_ | refine VV.b (b_neF (by omega) (by omega)) ?_)
  exact VV.r rfl q
theorem c_sets (hg : (lkp tabG g).isSome = true) (hn : τ (100 * g + 2) = nI n) (h4 : n ≤ 4) (q : Q (some (.int (nI (2 ^ n)))) (HH S τ A B)) : CC d M_Grid_sets [.ref g] (HH S τ A B) Q := by
  refine CC.of rfl ?_
  repeat (first | refine VV.add rfl ?_ | refine VV.inc rfl rfl rfl ?_ | refine VV.mul rfl ?_ | refine VV.sub rfl (by omega) ?_ | refine VV.shl1 rfl (by omega) ?_ | refine VV.shl rfl ⟨by omega, by omega⟩ ?_ | refine VV.shr rfl ⟨by omega, by omega⟩ ?_ | refine VV.and rfl ?_ | refine VV.s rfl ?_ | refine VV.gn rfl (rdG hg).1 rfl hn ?_ | refine VV.g rfl (rdG hg).1 rfl ?_ | refine VV.b (b_ltT (by omega) (by omega)) ?_ | refine VV.b (b_ltF (by omega) (by omega)) ?_ | refine VV.b (b_geT (by omega) (by omega)) ?_ | refine VV.b (b_geF (by omega) (by omega)) ?_ | refine VV.b (b_gtT (by omega) (by omega)) ?_ | refine VV.b (b_gtF (by omega) (by omega)) ?_ | refine VV.b (b_leT (by omega) (by omega)) ?_ | refine VV.b (b_leF (by omega) (by omega)) ?_ | refine VV.b (b_eqT (by omega) (by omega)) ?_ | refine VV.b (b_eqF (by omega) (by omega)) ?_ | refine VV.b (b_neT (by omega) (by omega)) ?_ | refine VV.b (b_neF (by omega) (by omega)) ?_)
  exact VV.r rfl q
theorem c_isLine_lt (hg : (lkp tabG g).isSome = true) (hn : τ (100 * g + 2) = nI n) (h4 : n ≤ 4) {x : Int32} (hx : x < 0) (q : Q (some (.int (nI 0))) (HH S τ A B)) : CC d M_Grid_isLine [.ref g, .int x] (HH S τ A B) Q := by
  refine CC.of rfl ?_
  repeat refine VV.s rfl ?_
  refine VV.t hx ?_
  repeat refine VV.s rfl ?_
  exact VV.r rfl q
theorem c_isLine (hg : (lkp tabG g).isSome = true) (hn : τ (100 * g + 2) = nI n) (h4 : n ≤ 4) {k : Nat} (hk : k < 2147483648) (q : Q (some (.int (bI (decide (k < n))))) (HH S τ A B)) : CC d M_Grid_isLine [.ref g, .int (nI k)] (HH S τ A B) Q := by
  refine CC.of rfl ?_
  repeat (first | refine VV.add rfl ?_ | refine VV.inc rfl rfl rfl ?_ | refine VV.mul rfl ?_ | refine VV.sub rfl (by omega) ?_ | refine VV.shl1 rfl (by omega) ?_ | refine VV.shl rfl ⟨by omega, by omega⟩ ?_ | refine VV.shr rfl ⟨by omega, by omega⟩ ?_ | refine VV.and rfl ?_ | refine VV.s rfl ?_ | refine VV.gn rfl (rdG hg).1 rfl hn ?_ | refine VV.g rfl (rdG hg).1 rfl ?_ | refine VV.b (b_ltT (by omega) (by omega)) ?_ | refine VV.b (b_ltF (by omega) (by omega)) ?_ | refine VV.b (b_geT (by omega) (by omega)) ?_ | refine VV.b (b_geF (by omega) (by omega)) ?_ | refine VV.b (b_gtT (by omega) (by omega)) ?_ | refine VV.b (b_gtF (by omega) (by omega)) ?_ | refine VV.b (b_leT (by omega) (by omega)) ?_ | refine VV.b (b_leF (by omega) (by omega)) ?_ | refine VV.b (b_eqT (by omega) (by omega)) ?_ | refine VV.b (b_eqF (by omega) (by omega)) ?_ | refine VV.b (b_neT (by omega) (by omega)) ?_ | refine VV.b (b_neF (by omega) (by omega)) ?_)
  refine VV.lt hk (by omega) (fun c => ?_) (fun c => ?_)
  · rw [decide_eq_true c] at q
    repeat refine VV.s rfl ?_
    exact VV.r rfl q
  · rw [decide_eq_false (by omega)] at q
    repeat refine VV.s rfl ?_
    exact VV.r rfl q
theorem c_at (hg : (lkp tabG g).isSome = true) (hn : τ (100 * g + 2) = nI n) (h4 : n ≤ 4) {i j : Nat} (hi : i < n) (hj : j < n) (q : Q (some (.long (B (g + 1) (4 * i + j)))) (HH S τ A B)) : CC d M_Grid_at [.ref g, .int (nI i), .int (nI j)] (HH S τ A B) Q := by
  refine CC.of rfl ?_
  repeat (first | refine VV.add rfl ?_ | refine VV.inc rfl rfl rfl ?_ | refine VV.mul rfl ?_ | refine VV.sub rfl (by omega) ?_ | refine VV.shl1 rfl (by omega) ?_ | refine VV.shl rfl ⟨by omega, by omega⟩ ?_ | refine VV.shr rfl ⟨by omega, by omega⟩ ?_ | refine VV.and rfl ?_ | refine VV.s rfl ?_ | refine VV.gn rfl (rdG hg).1 rfl hn ?_ | refine VV.g rfl (rdG hg).1 rfl ?_ | refine VV.b (b_ltT (by omega) (by omega)) ?_ | refine VV.b (b_ltF (by omega) (by omega)) ?_ | refine VV.b (b_geT (by omega) (by omega)) ?_ | refine VV.b (b_geF (by omega) (by omega)) ?_ | refine VV.b (b_gtT (by omega) (by omega)) ?_ | refine VV.b (b_gtF (by omega) (by omega)) ?_ | refine VV.b (b_leT (by omega) (by omega)) ?_ | refine VV.b (b_leF (by omega) (by omega)) ?_ | refine VV.b (b_eqT (by omega) (by omega)) ?_ | refine VV.b (b_eqF (by omega) (by omega)) ?_ | refine VV.b (b_neT (by omega) (by omega)) ?_ | refine VV.b (b_neF (by omega) (by omega)) ?_)
  refine VV.jl rfl (rdG (S := S) (τ := τ) (A := A) (B := B) hg).2.1 ?_
  rw [(rdG (S := S) (τ := τ) (A := A) (B := B) hg).2.2.1]
  repeat (first | refine VV.add rfl ?_ | refine VV.inc rfl rfl rfl ?_ | refine VV.mul rfl ?_ | refine VV.sub rfl (by omega) ?_ | refine VV.shl1 rfl (by omega) ?_ | refine VV.shl rfl ⟨by omega, by omega⟩ ?_ | refine VV.shr rfl ⟨by omega, by omega⟩ ?_ | refine VV.and rfl ?_ | refine VV.s rfl ?_ | refine VV.gn rfl (rdG hg).1 rfl hn ?_ | refine VV.g rfl (rdG hg).1 rfl ?_ | refine VV.b (b_ltT (by omega) (by omega)) ?_ | refine VV.b (b_ltF (by omega) (by omega)) ?_ | refine VV.b (b_geT (by omega) (by omega)) ?_ | refine VV.b (b_geF (by omega) (by omega)) ?_ | refine VV.b (b_gtT (by omega) (by omega)) ?_ | refine VV.b (b_gtF (by omega) (by omega)) ?_ | refine VV.b (b_leT (by omega) (by omega)) ?_ | refine VV.b (b_leF (by omega) (by omega)) ?_ | refine VV.b (b_eqT (by omega) (by omega)) ?_ | refine VV.b (b_eqF (by omega) (by omega)) ?_ | refine VV.b (b_neT (by omega) (by omega)) ?_ | refine VV.b (b_neF (by omega) (by omega)) ?_)
  refine VV.ja rfl (rdG (S := S) (τ := τ) (A := A) (B := B) hg).2.1 rfl (by rw [(rdG (S := S) (τ := τ) (A := A) (B := B) hg).2.2.1]; omega) ?_
  repeat refine VV.s rfl ?_
  exact VV.r rfl q
theorem c_put (hg : (lkp tabG g).isSome = true) (hn : τ (100 * g + 2) = nI n) (h4 : n ≤ 4) {i j : Nat} {x : Int64} (hi : i < n) (hj : j < n) (q : Q none (HH S τ A (up B (g + 1) (up (B (g + 1)) (4 * i + j) x)))) : CC d M_Grid_put [.ref g, .int (nI i), .int (nI j), .long x] (HH S τ A B) Q := by
  refine CC.of rfl ?_
  repeat (first | refine VV.add rfl ?_ | refine VV.inc rfl rfl rfl ?_ | refine VV.mul rfl ?_ | refine VV.sub rfl (by omega) ?_ | refine VV.shl1 rfl (by omega) ?_ | refine VV.shl rfl ⟨by omega, by omega⟩ ?_ | refine VV.shr rfl ⟨by omega, by omega⟩ ?_ | refine VV.and rfl ?_ | refine VV.s rfl ?_ | refine VV.gn rfl (rdG hg).1 rfl hn ?_ | refine VV.g rfl (rdG hg).1 rfl ?_ | refine VV.b (b_ltT (by omega) (by omega)) ?_ | refine VV.b (b_ltF (by omega) (by omega)) ?_ | refine VV.b (b_geT (by omega) (by omega)) ?_ | refine VV.b (b_geF (by omega) (by omega)) ?_ | refine VV.b (b_gtT (by omega) (by omega)) ?_ | refine VV.b (b_gtF (by omega) (by omega)) ?_ | refine VV.b (b_leT (by omega) (by omega)) ?_ | refine VV.b (b_leF (by omega) (by omega)) ?_ | refine VV.b (b_eqT (by omega) (by omega)) ?_ | refine VV.b (b_eqF (by omega) (by omega)) ?_ | refine VV.b (b_neT (by omega) (by omega)) ?_ | refine VV.b (b_neF (by omega) (by omega)) ?_)
  refine VV.jl rfl (rdG (S := S) (τ := τ) (A := A) (B := B) hg).2.1 ?_
  rw [(rdG (S := S) (τ := τ) (A := A) (B := B) hg).2.2.1]
  repeat (first | refine VV.add rfl ?_ | refine VV.inc rfl rfl rfl ?_ | refine VV.mul rfl ?_ | refine VV.sub rfl (by omega) ?_ | refine VV.shl1 rfl (by omega) ?_ | refine VV.shl rfl ⟨by omega, by omega⟩ ?_ | refine VV.shr rfl ⟨by omega, by omega⟩ ?_ | refine VV.and rfl ?_ | refine VV.s rfl ?_ | refine VV.gn rfl (rdG hg).1 rfl hn ?_ | refine VV.g rfl (rdG hg).1 rfl ?_ | refine VV.b (b_ltT (by omega) (by omega)) ?_ | refine VV.b (b_ltF (by omega) (by omega)) ?_ | refine VV.b (b_geT (by omega) (by omega)) ?_ | refine VV.b (b_geF (by omega) (by omega)) ?_ | refine VV.b (b_gtT (by omega) (by omega)) ?_ | refine VV.b (b_gtF (by omega) (by omega)) ?_ | refine VV.b (b_leT (by omega) (by omega)) ?_ | refine VV.b (b_leF (by omega) (by omega)) ?_ | refine VV.b (b_eqT (by omega) (by omega)) ?_ | refine VV.b (b_eqF (by omega) (by omega)) ?_ | refine VV.b (b_neT (by omega) (by omega)) ?_ | refine VV.b (b_neF (by omega) (by omega)) ?_)
  refine VV.js rfl (rdG (S := S) (τ := τ) (A := A) (B := B) hg).2.1 rfl (by rw [(rdG (S := S) (τ := τ) (A := A) (B := B) hg).2.2.1]; omega) ?_
  repeat refine VV.s rfl ?_
  exact VV.r rfl q
end GL
