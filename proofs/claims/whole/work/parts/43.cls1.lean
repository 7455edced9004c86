/-! the class's calls: what is told, numbers, notes, changes of signs -/
section CG
variable {E E' : Nat → Int64} {n : Nat}
theorem fmn_congr (h4 : n ≤ 4) (h : ∀ i j, i < n → j < n → E (4 * i + j) = E' (4 * i + j)) {i j : Nat} (hi : i < n) (hj : j < n) : fmn E i j = fmn E' i j :=
  mnr_congr h4 (t_blk h4 hi (by omega) (by omega)).1 (t_blk h4 hj (by omega) (by omega)).1 h
theorem amJ_congr (h4 : n ≤ 4) (h : ∀ i j, i < n → j < n → E (4 * i + j) = E' (4 * i + j)) {i : Nat} (hi : i < n) : ∀ m j, j + m ≤ n → amJ E i m j = amJ E' i m j := by
  intro m
  induction m with
  | zero => intro j _; rfl
  | succ m ih => intro j hj; rw [amJ, amJ, fmn_congr h4 h hi (by omega), ih (j + 1) (by omega)]
theorem amI_congr (h4 : n ≤ 4) (h : ∀ i j, i < n → j < n → E (4 * i + j) = E' (4 * i + j)) : ∀ m i, i + m ≤ n → amI E n m i = amI E' n m i := by
  intro m
  induction m with
  | zero => intro i _; rfl
  | succ m ih => intro i hi; rw [amI, amI, amJ_congr h4 h (by omega) n 0 (by omega), ih (i + 1) (by omega)]
theorem abC_congr (h4 : n ≤ 4) (h : ∀ i j, i < n → j < n → E (4 * i + j) = E' (4 * i + j)) {k R C : Nat} (hR : R < 2 ^ n) (hC : C < 2 ^ n) : abC E k R C = abC E' k R C := by
  unfold abC
  rw [mnr_congr h4 hR hC h]
theorem abN_congr (h4 : n ≤ 4) (h : ∀ i j, i < n → j < n → E (4 * i + j) = E' (4 * i + j)) (k : Nat) : abN E n k = abN E' n k :=
  sm_congr (fun R hR => sm_congr (fun C hC => abC_congr h4 h hR hC))
end CG
def abT (E : Nat → Int64) (n : Nat) : Nat := sm (fun o => if o = 0 then 0 else abN E n o) (n + 1)
theorem abT_congr {E E' : Nat → Int64} {n : Nat} (h4 : n ≤ 4) (h : ∀ i j, i < n → j < n → E (4 * i + j) = E' (4 * i + j)) : abT E n = abT E' n :=
  sm_congr (fun o _ => by rw [abN_congr h4 h])
/-- changes of signs -/
def chS (p : Nat × Int64) (x : Int64) : Nat × Int64 := if x = 0 then p else ((if p.2 = 0 then p.1 else if decide (0 < p.2) = decide (0 < x) then p.1 else p.1 + 1), x)
def chL (f : Nat → Int64) : Nat → Nat × Int64
  | 0 => (0, 0)
  | k + 1 => chS (chL f k) (f k)
theorem chS_le (p : Nat × Int64) (x : Int64) : (chS p x).1 ≤ p.1 + 1 := by
  unfold chS
  repeat' split
  all_goals (try dsimp only)
  all_goals omega
theorem chL_le (f : Nat → Int64) : ∀ k, (chL f k).1 ≤ k
  | 0 => Nat.le_refl _
  | k + 1 => Nat.le_trans (chS_le _ _) (Nat.succ_le_succ (chL_le f k))
theorem chL_congr {f g : Nat → Int64} : ∀ k, (∀ j, j < k → f j = g j) → chL f k = chL g k
  | 0, _ => rfl
  | k + 1, h => by rw [chL, chL, chL_congr k (fun j hj => h j (by omega)), h k (by omega)]
theorem chL_more {f : Nat → Int64} {n : Nat} : ∀ m, (∀ k, n ≤ k → k < n + m → f k = 0) → chL f (n + m) = chL f n
  | 0, _ => rfl
  | m + 1, h => by
    rw [show n + (m + 1) = n + m + 1 by omega, chL, h (n + m) (by omega) (by omega), chL_more m (fun k h1 h2 => h k h1 (by omega))]
    exact if_pos rfl
theorem chL_4 {f : Nat → Int64} {n : Nat} (h4 : n ≤ 4) (h : ∀ k, n ≤ k → k < 4 → f k = 0) : chL f 4 = chL f n := by
  have := chL_more (f := f) (n := n) (4 - n) (fun k h1 h2 => h k h1 (by omega))
  rw [show n + (4 - n) = 4 by omega] at this
  exact this
def tvr (E V : Nat → Int64) (n i : Nat) : Int64 := sJ (fun j => (if i < n then E (4 * i + j) else 0) * V j) n
theorem sJ_congr {f g : Nat → Int64} : ∀ k, (∀ j, j < k → f j = g j) → sJ f k = sJ g k
  | 0, _ => rfl
  | k + 1, h => by rw [sJ, sJ, sJ_congr k (fun j hj => h j (by omega)), h k (by omega)]
theorem sJ_zero {f : Nat → Int64} : ∀ k, (∀ j, j < k → f j = 0) → sJ f k = 0
  | 0, _ => rfl
  | k + 1, h => by rw [sJ, sJ_zero k (fun j hj => h j (by omega)), h k (by omega)]; rfl
theorem tvr_0 {E V : Nat → Int64} {n i : Nat} (h : n ≤ i) : tvr E V n i = 0 := sJ_zero n (fun j _ => by rw [if_neg (by omega), Int64.zero_mul])
theorem tvr_congr {E E' V V' : Nat → Int64} {n i : Nat} (h4 : n ≤ 4) (hE : ∀ i j, i < n → j < n → E (4 * i + j) = E' (4 * i + j)) (hV : ∀ i, i < 4 → V i = V' i) : tvr E V n i = tvr E' V' n i :=
  sJ_congr n (fun j hj => by
    by_cases c : i < n
    · rw [if_pos c, if_pos c, hE i j c hj, hV j (by omega)]
    · rw [if_neg c, if_neg c, hV j (by omega)])
def lkd (n : Nat) (E : Nat → Int64) (r : Nat → Nat → Int32) : Nat → Nat → Int32
  | 0, _ => -(nI 5)
  | m + 1, k => if spB n (r k 0) = true ∧ E (cel (r k 0)) = (r k 1).toInt64 then lkd n E r m (k + 1) else nI k
def oOf (s : St) (a x : Int32) : Int32 × St := (if a = nI 0 ∧ spB s.c.n x = true then rz (s.c.E (cel x)) else if a = nI 1 ∧ ltB s.c.n x = true then rz (s.c.V x.toNatClampNeg) else -(nI 1), s)
def oChipOf (s : St) (x w : Int32) : Int32 × St := (if ltB (s.c.m 1) x = true ∧ rgB (nI 0) (nI 2) w = true then s.c.r 1 x.toNatClampNeg w.toNatClampNeg else -(nI 1), s)
def oNoted (s : St) (x : Int32) : Int32 × St := (if x < nI 0 then -(nI 1) else if ltB (s.c.m 2) x = true then nI 100 * s.c.r 2 x.toNatClampNeg 0 + s.c.r 2 x.toNatClampNeg 1 else -(nI 5), s)
def oLooked (s : St) : Int32 × St := (lkd s.c.n s.c.E (s.c.r 5) (s.c.m 5) 0, s)
def oFirst (s : St) (x : Int32) : Int64 × St := (if spB s.c.n x = true then fmn s.c.E (x.toNatClampNeg / 10) (x.toNatClampNeg % 10) else noJ, s)
def oTold (s : St) (x : Int32) : Int32 × St := (if x = nI 0 then nI s.c.n else if x = nI 1 then nI (s.c.m 1) else if x = nI 2 then bI (decide (amI s.c.E s.c.n s.c.n 0 = none)) else if x = nI 3 then amR (amI s.c.E s.c.n s.c.n 0) else if x = nI 4 then nI (abT s.c.E s.c.n) else if x = nI 5 then nI (s.c.m 2) else if x = nI 6 then nI (chL s.c.V s.c.n).1 else if x = nI 7 then nI (chL (tvr s.c.E s.c.V s.c.n) s.c.n).1 else -(nI 1), s)
theorem RX.b5 {s : St} {τ : Nat → Int32} {A : Nat → Nat → Int32} {B : Nat → Nat → Int64} (h : RX s τ A B) (f : Nat → Int64) : RX s τ A (up B 5 f) :=
  h.fn (c := s.c) (FN.ub (by decide) FN.refl) (RS.mk h.now.n h.now.E h.now.V h.now.chip h.now.note h.now.seen h.now.event h.now.book)
theorem FX.b5 {τ : Nat → Int32} {A : Nat → Nat → Int32} {B : Nat → Nat → Int64} (f : Nat → Int64) : FX τ A B τ A (up B 5 f) := FX.ub (by decide) FX.refl
theorem up_self {α : Type} (f : Nat → α) (k : Nat) : ∃ x, up f k x = f := ⟨f k, up_id f k⟩
section XC
variable {S : Cl} {τ : Nat → Int32} {A : Nat → Nat → Int32} {B : Nat → Nat → Int64}
variable {d n : Nat} {Q : Option Value → Hp → Prop}
theorem c_atx {g : Nat} (hg : (lkp tabG g).isSome = true) (hn : τ (100 * g + 2) = nI n) (h4 : n ≤ 4) {i j : Nat} (hi : i < 4) (hj : j < n) (q : Q (some (.long (if i < n then B (g + 1) (4 * i + j) else 0))) (HH S τ A B)) : CC d M_Grid_at [.ref g, .int (nI i), .int (nI j)] (HH S τ A B) Q := by
  by_cases c : i < n
  · rw [if_pos c] at q
    exact c_at hg hn h4 c hj q
  · rw [if_neg c] at q
    refine CC.of rfl ?_
    repeat (first | refine VV.add rfl ?_ | refine VV.inc rfl rfl rfl ?_ | refine VV.mul rfl ?_ | refine VV.sub rfl (by omega) ?_ | refine VV.shl1 rfl (by omega) ?_ | refine VV.shl rfl ⟨by omega, by omega⟩ ?_ | refine VV.shr rfl ⟨by omega, by omega⟩ ?_ | refine VV.and rfl ?_ | refine VV.div rfl ⟨by omega, by omega, by omega⟩ ?_ | refine VV.rem rfl ⟨by omega, by omega, by omega⟩ ?_ | refine VV.s rfl ?_ | refine VV.gn rfl (rdG hg).1 rfl hn ?_ | refine VV.g rfl (rdG hg).1 rfl ?_ | refine VV.b (b_ltT (by omega) (by omega)) ?_ | refine VV.b (b_ltF (by omega) (by omega)) ?_ | refine VV.b (b_geT (by omega) (by omega)) ?_ | refine VV.b (b_geF (by omega) (by omega)) ?_ | refine VV.b (b_gtT (by omega) (by omega)) ?_ | refine VV.b (b_gtF (by omega) (by omega)) ?_ | refine VV.b (b_leT (by omega) (by omega)) ?_ | refine VV.b (b_leF (by omega) (by omega)) ?_ | refine VV.b (b_eqT (by omega) (by omega)) ?_ | refine VV.b (b_eqF (by omega) (by omega)) ?_ | refine VV.b (b_neT (by omega) (by omega)) ?_ | refine VV.b (b_neF (by omega) (by omega)) ?_)
    exact VV.r rfl q
theorem cx_changes {a : Nat} (ha : (lkp tabJ a).isSome = true) (hl : lenJ a = 4) (q : Q (some (.int (nI (chL (B a) 4).1))) (HH S τ A B)) : CC d M_T_changes [.ref a] (HH S τ A B) Q := by
  refine CC.of rfl ?_
  have V := VV.inv (fun k (p : Nat × Int64) => p = chL (B a) k) (fun k p => VV d M_T_changes 7 [some (.ref a), some (.int (nI p.1)), some (.long p.2), none, some (.int (nI k))] [] (HH S τ A B) Q) 4 ?_ ?_ 4 0 (0, 0) (by omega) rfl
  · repeat (first | exact V | refine VV.add rfl ?_ | refine VV.inc rfl rfl rfl ?_ | refine VV.mul rfl ?_ | refine VV.sub rfl (by omega) ?_ | refine VV.shl1 rfl (by omega) ?_ | refine VV.shl rfl ⟨by omega, by omega⟩ ?_ | refine VV.shr rfl ⟨by omega, by omega⟩ ?_ | refine VV.and rfl ?_ | refine VV.div rfl ⟨by omega, by omega, by omega⟩ ?_ | refine VV.rem rfl ⟨by omega, by omega, by omega⟩ ?_ | refine VV.s rfl ?_  | refine VV.b (b_ltT (by omega) (by omega)) ?_ | refine VV.b (b_ltF (by omega) (by omega)) ?_ | refine VV.b (b_geT (by omega) (by omega)) ?_ | refine VV.b (b_geF (by omega) (by omega)) ?_ | refine VV.b (b_gtT (by omega) (by omega)) ?_ | refine VV.b (b_gtF (by omega) (by omega)) ?_ | refine VV.b (b_leT (by omega) (by omega)) ?_ | refine VV.b (b_leF (by omega) (by omega)) ?_ | refine VV.b (b_eqT (by omega) (by omega)) ?_ | refine VV.b (b_eqF (by omega) (by omega)) ?_ | refine VV.b (b_neT (by omega) (by omega)) ?_ | refine VV.b (b_neF (by omega) (by omega)) ?_)
  · intro k p hk hp nxt
    have hle := chL_le (B a) k
    rw [← hp] at hle
    have nx2 := nxt (chS p (B a k)) (by rw [hp]; rfl)
    repeat (first | refine VV.jln rfl ha hl ?_ | refine VV.add rfl ?_ | refine VV.inc rfl rfl rfl ?_ | refine VV.mul rfl ?_ | refine VV.sub rfl (by omega) ?_ | refine VV.shl1 rfl (by omega) ?_ | refine VV.shl rfl ⟨by omega, by omega⟩ ?_ | refine VV.shr rfl ⟨by omega, by omega⟩ ?_ | refine VV.and rfl ?_ | refine VV.div rfl ⟨by omega, by omega, by omega⟩ ?_ | refine VV.rem rfl ⟨by omega, by omega, by omega⟩ ?_ | refine VV.s rfl ?_  | refine VV.b (b_ltT (by omega) (by omega)) ?_ | refine VV.b (b_ltF (by omega) (by omega)) ?_ | refine VV.b (b_geT (by omega) (by omega)) ?_ | refine VV.b (b_geF (by omega) (by omega)) ?_ | refine VV.b (b_gtT (by omega) (by omega)) ?_ | refine VV.b (b_gtF (by omega) (by omega)) ?_ | refine VV.b (b_leT (by omega) (by omega)) ?_ | refine VV.b (b_leF (by omega) (by omega)) ?_ | refine VV.b (b_eqT (by omega) (by omega)) ?_ | refine VV.b (b_eqF (by omega) (by omega)) ?_ | refine VV.b (b_neT (by omega) (by omega)) ?_ | refine VV.b (b_neF (by omega) (by omega)) ?_)
    refine VV.ja rfl ha rfl (by omega) ?_
    repeat refine VV.s rfl ?_
    unfold chS at nx2
    refine VV.ceq0 (fun c => ?_) (fun c => ?_)
    · rw [if_pos c] at nx2
      repeat (first | exact nx2 | refine VV.add rfl ?_ | refine VV.inc rfl rfl rfl ?_ | refine VV.mul rfl ?_ | refine VV.sub rfl (by omega) ?_ | refine VV.shl1 rfl (by omega) ?_ | refine VV.shl rfl ⟨by omega, by omega⟩ ?_ | refine VV.shr rfl ⟨by omega, by omega⟩ ?_ | refine VV.and rfl ?_ | refine VV.div rfl ⟨by omega, by omega, by omega⟩ ?_ | refine VV.rem rfl ⟨by omega, by omega, by omega⟩ ?_ | refine VV.s rfl ?_  | refine VV.b (b_ltT (by omega) (by omega)) ?_ | refine VV.b (b_ltF (by omega) (by omega)) ?_ | refine VV.b (b_geT (by omega) (by omega)) ?_ | refine VV.b (b_geF (by omega) (by omega)) ?_ | refine VV.b (b_gtT (by omega) (by omega)) ?_ | refine VV.b (b_gtF (by omega) (by omega)) ?_ | refine VV.b (b_leT (by omega) (by omega)) ?_ | refine VV.b (b_leF (by omega) (by omega)) ?_ | refine VV.b (b_eqT (by omega) (by omega)) ?_ | refine VV.b (b_eqF (by omega) (by omega)) ?_ | refine VV.b (b_neT (by omega) (by omega)) ?_ | refine VV.b (b_neF (by omega) (by omega)) ?_)
    · rw [if_neg c] at nx2
      have fin : ∀ m, (if p.2 = 0 then p.1 else if decide (0 < p.2) = decide (0 < B a k) then p.1 else p.1 + 1) = m → VV d M_T_changes 60 [some (.ref a), some (.int (nI m)), some (.long p.2), none, some (.int (nI k))] [] (HH S τ A B) Q := by
        intro m e
        rw [e] at nx2
        repeat refine VV.s rfl ?_
        refine VV.ja rfl ha rfl (by omega) ?_
        repeat (first | exact nx2 | refine VV.add rfl ?_ | refine VV.inc rfl rfl rfl ?_ | refine VV.mul rfl ?_ | refine VV.sub rfl (by omega) ?_ | refine VV.shl1 rfl (by omega) ?_ | refine VV.shl rfl ⟨by omega, by omega⟩ ?_ | refine VV.shr rfl ⟨by omega, by omega⟩ ?_ | refine VV.and rfl ?_ | refine VV.div rfl ⟨by omega, by omega, by omega⟩ ?_ | refine VV.rem rfl ⟨by omega, by omega, by omega⟩ ?_ | refine VV.s rfl ?_  | refine VV.b (b_ltT (by omega) (by omega)) ?_ | refine VV.b (b_ltF (by omega) (by omega)) ?_ | refine VV.b (b_geT (by omega) (by omega)) ?_ | refine VV.b (b_geF (by omega) (by omega)) ?_ | refine VV.b (b_gtT (by omega) (by omega)) ?_ | refine VV.b (b_gtF (by omega) (by omega)) ?_ | refine VV.b (b_leT (by omega) (by omega)) ?_ | refine VV.b (b_leF (by omega) (by omega)) ?_ | refine VV.b (b_eqT (by omega) (by omega)) ?_ | refine VV.b (b_eqF (by omega) (by omega)) ?_ | refine VV.b (b_neT (by omega) (by omega)) ?_ | refine VV.b (b_neF (by omega) (by omega)) ?_)
      repeat refine VV.s rfl ?_
      refine VV.ceq0 (fun c1 => ?_) (fun c1 => ?_)
      · exact fin _ (if_pos c1)
      · rw [if_neg c1] at fin
        repeat refine VV.s rfl ?_
        refine VV.cle0 (fun c2 => ?_) (fun c2 => ?_)
        · repeat refine VV.s rfl ?_
          refine VV.ja rfl ha rfl (by omega) ?_
          repeat refine VV.s rfl ?_
          refine VV.cle0 (fun c3 => ?_) (fun c3 => ?_)
          · have := fin p.1 (if_pos (by rw [decide_eq_true c2, decide_eq_true c3]))
            repeat (first | exact this | refine VV.add rfl ?_ | refine VV.inc rfl rfl rfl ?_ | refine VV.mul rfl ?_ | refine VV.sub rfl (by omega) ?_ | refine VV.shl1 rfl (by omega) ?_ | refine VV.shl rfl ⟨by omega, by omega⟩ ?_ | refine VV.shr rfl ⟨by omega, by omega⟩ ?_ | refine VV.and rfl ?_ | refine VV.div rfl ⟨by omega, by omega, by omega⟩ ?_ | refine VV.rem rfl ⟨by omega, by omega, by omega⟩ ?_ | refine VV.s rfl ?_  | refine VV.b (b_ltT (by omega) (by omega)) ?_ | refine VV.b (b_ltF (by omega) (by omega)) ?_ | refine VV.b (b_geT (by omega) (by omega)) ?_ | refine VV.b (b_geF (by omega) (by omega)) ?_ | refine VV.b (b_gtT (by omega) (by omega)) ?_ | refine VV.b (b_gtF (by omega) (by omega)) ?_ | refine VV.b (b_leT (by omega) (by omega)) ?_ | refine VV.b (b_leF (by omega) (by omega)) ?_ | refine VV.b (b_eqT (by omega) (by omega)) ?_ | refine VV.b (b_eqF (by omega) (by omega)) ?_ | refine VV.b (b_neT (by omega) (by omega)) ?_ | refine VV.b (b_neF (by omega) (by omega)) ?_)
          · have := fin (p.1 + 1) (if_neg (by rw [decide_eq_true c2, decide_eq_false c3]; decide))
            repeat (first | exact this | refine VV.add rfl ?_ | refine VV.inc rfl rfl rfl ?_ | refine VV.mul rfl ?_ | refine VV.sub rfl (by omega) ?_ | refine VV.shl1 rfl (by omega) ?_ | refine VV.shl rfl ⟨by omega, by omega⟩ ?_ | refine VV.shr rfl ⟨by omega, by omega⟩ ?_ | refine VV.and rfl ?_ | refine VV.div rfl ⟨by omega, by omega, by omega⟩ ?_ | refine VV.rem rfl ⟨by omega, by omega, by omega⟩ ?_ | refine VV.s rfl ?_  | refine VV.b (b_ltT (by omega) (by omega)) ?_ | refine VV.b (b_ltF (by omega) (by omega)) ?_ | refine VV.b (b_geT (by omega) (by omega)) ?_ | refine VV.b (b_geF (by omega) (by omega)) ?_ | refine VV.b (b_gtT (by omega) (by omega)) ?_ | refine VV.b (b_gtF (by omega) (by omega)) ?_ | refine VV.b (b_leT (by omega) (by omega)) ?_ | refine VV.b (b_leF (by omega) (by omega)) ?_ | refine VV.b (b_eqT (by omega) (by omega)) ?_ | refine VV.b (b_eqF (by omega) (by omega)) ?_ | refine VV.b (b_neT (by omega) (by omega)) ?_ | refine VV.b (b_neF (by omega) (by omega)) ?_)
        · repeat refine VV.s rfl ?_
          refine VV.ja rfl ha rfl (by omega) ?_
          repeat refine VV.s rfl ?_
          refine VV.cle0 (fun c3 => ?_) (fun c3 => ?_)
          · have := fin (p.1 + 1) (if_neg (by rw [decide_eq_false c2, decide_eq_true c3]; decide))
            repeat (first | exact this | refine VV.add rfl ?_ | refine VV.inc rfl rfl rfl ?_ | refine VV.mul rfl ?_ | refine VV.sub rfl (by omega) ?_ | refine VV.shl1 rfl (by omega) ?_ | refine VV.shl rfl ⟨by omega, by omega⟩ ?_ | refine VV.shr rfl ⟨by omega, by omega⟩ ?_ | refine VV.and rfl ?_ | refine VV.div rfl ⟨by omega, by omega, by omega⟩ ?_ | refine VV.rem rfl ⟨by omega, by omega, by omega⟩ ?_ | refine VV.s rfl ?_  | refine VV.b (b_ltT (by omega) (by omega)) ?_ | refine VV.b (b_ltF (by omega) (by omega)) ?_ | refine VV.b (b_geT (by omega) (by omega)) ?_ | refine VV.b (b_geF (by omega) (by omega)) ?_ | refine VV.b (b_gtT (by omega) (by omega)) ?_ | refine VV.b (b_gtF (by omega) (by omega)) ?_ | refine VV.b (b_leT (by omega) (by omega)) ?_ | refine VV.b (b_leF (by omega) (by omega)) ?_ | refine VV.b (b_eqT (by omega) (by omega)) ?_ | refine VV.b (b_eqF (by omega) (by omega)) ?_ | refine VV.b (b_neT (by omega) (by omega)) ?_ | refine VV.b (b_neF (by omega) (by omega)) ?_)
          · have := fin p.1 (if_pos (by rw [decide_eq_false c2, decide_eq_false c3]))
            repeat (first | exact this | refine VV.add rfl ?_ | refine VV.inc rfl rfl rfl ?_ | refine VV.mul rfl ?_ | refine VV.sub rfl (by omega) ?_ | refine VV.shl1 rfl (by omega) ?_ | refine VV.shl rfl ⟨by omega, by omega⟩ ?_ | refine VV.shr rfl ⟨by omega, by omega⟩ ?_ | refine VV.and rfl ?_ | refine VV.div rfl ⟨by omega, by omega, by omega⟩ ?_ | refine VV.rem rfl ⟨by omega, by omega, by omega⟩ ?_ | refine VV.s rfl ?_  | refine VV.b (b_ltT (by omega) (by omega)) ?_ | refine VV.b (b_ltF (by omega) (by omega)) ?_ | refine VV.b (b_geT (by omega) (by omega)) ?_ | refine VV.b (b_geF (by omega) (by omega)) ?_ | refine VV.b (b_gtT (by omega) (by omega)) ?_ | refine VV.b (b_gtF (by omega) (by omega)) ?_ | refine VV.b (b_leT (by omega) (by omega)) ?_ | refine VV.b (b_leF (by omega) (by omega)) ?_ | refine VV.b (b_eqT (by omega) (by omega)) ?_ | refine VV.b (b_eqF (by omega) (by omega)) ?_ | refine VV.b (b_neT (by omega) (by omega)) ?_ | refine VV.b (b_neF (by omega) (by omega)) ?_)
  · intro p hp
    subst hp
    repeat (first | refine VV.jln rfl ha hl ?_ | refine VV.add rfl ?_ | refine VV.inc rfl rfl rfl ?_ | refine VV.mul rfl ?_ | refine VV.sub rfl (by omega) ?_ | refine VV.shl1 rfl (by omega) ?_ | refine VV.shl rfl ⟨by omega, by omega⟩ ?_ | refine VV.shr rfl ⟨by omega, by omega⟩ ?_ | refine VV.and rfl ?_ | refine VV.div rfl ⟨by omega, by omega, by omega⟩ ?_ | refine VV.rem rfl ⟨by omega, by omega, by omega⟩ ?_ | refine VV.s rfl ?_  | refine VV.b (b_ltT (by omega) (by omega)) ?_ | refine VV.b (b_ltF (by omega) (by omega)) ?_ | refine VV.b (b_geT (by omega) (by omega)) ?_ | refine VV.b (b_geF (by omega) (by omega)) ?_ | refine VV.b (b_gtT (by omega) (by omega)) ?_ | refine VV.b (b_gtF (by omega) (by omega)) ?_ | refine VV.b (b_leT (by omega) (by omega)) ?_ | refine VV.b (b_leF (by omega) (by omega)) ?_ | refine VV.b (b_eqT (by omega) (by omega)) ?_ | refine VV.b (b_eqF (by omega) (by omega)) ?_ | refine VV.b (b_neT (by omega) (by omega)) ?_ | refine VV.b (b_neF (by omega) (by omega)) ?_)
    exact VV.r rfl q
theorem cx_changes7 (hn : τ (100 * 3 + 2) = nI n) (h4 : n ≤ 4) (q : ∀ W, (∀ i, i < 4 → W i = tvr (B 4) (B 8) n i) → Q (some (.int (nI (chL (tvr (B 4) (B 8) n) 4).1))) (HH S τ A (up B 45 W))) : CC (d + 3) M_T_changesOfTableTimesVector [.ref 1] (HH S τ A B) Q := by
  refine CC.of rfl ?_
  have V := VV.inv (fun k (W : Nat → Int64) => ∀ i, i < k → W i = tvr (B 4) (B 8) n i) (fun k W => ∀ x2 x3 x4, VV (d + 3) M_T_changesOfTableTimesVector 2 [some (.ref 1), some (.int (nI k)), x2, x3, x4] [] (HH S τ A (up B 45 W)) Q) 4 ?_ ?_ 4 0 (B 45) (by omega) (fun i hi => by omega) none none none
  · rw [up_id] at V
    repeat (first | exact V | refine VV.add rfl ?_ | refine VV.inc rfl rfl rfl ?_ | refine VV.mul rfl ?_ | refine VV.sub rfl (by omega) ?_ | refine VV.shl1 rfl (by omega) ?_ | refine VV.shl rfl ⟨by omega, by omega⟩ ?_ | refine VV.shr rfl ⟨by omega, by omega⟩ ?_ | refine VV.and rfl ?_ | refine VV.div rfl ⟨by omega, by omega, by omega⟩ ?_ | refine VV.rem rfl ⟨by omega, by omega, by omega⟩ ?_ | refine VV.s rfl ?_  | refine VV.b (b_ltT (by omega) (by omega)) ?_ | refine VV.b (b_ltF (by omega) (by omega)) ?_ | refine VV.b (b_geT (by omega) (by omega)) ?_ | refine VV.b (b_geF (by omega) (by omega)) ?_ | refine VV.b (b_gtT (by omega) (by omega)) ?_ | refine VV.b (b_gtF (by omega) (by omega)) ?_ | refine VV.b (b_leT (by omega) (by omega)) ?_ | refine VV.b (b_leF (by omega) (by omega)) ?_ | refine VV.b (b_eqT (by omega) (by omega)) ?_ | refine VV.b (b_eqF (by omega) (by omega)) ?_ | refine VV.b (b_neT (by omega) (by omega)) ?_ | refine VV.b (b_neF (by omega) (by omega)) ?_)
  · intro k W hk hW nxt x2 x3 x4
    have I := VV.inv (fun j (t : Int64) => t = sJ (fun j => (if k < n then B 4 (4 * k + j) else 0) * B 8 j) j) (fun j t => VV (d + 3) M_T_changesOfTableTimesVector 16 [some (.ref 1), some (.int (nI k)), some (.long t), none, some (.int (nI j))] [] (HH S τ A (up B 45 W)) Q) n ?_ ?_ n 0 0 (by omega) rfl
    · repeat (first | exact I | refine VV.jln (a := 45) (n := 4) rfl rfl rfl ?_ | refine VV.add rfl ?_ | refine VV.inc rfl rfl rfl ?_ | refine VV.mul rfl ?_ | refine VV.sub rfl (by omega) ?_ | refine VV.shl1 rfl (by omega) ?_ | refine VV.shl rfl ⟨by omega, by omega⟩ ?_ | refine VV.shr rfl ⟨by omega, by omega⟩ ?_ | refine VV.and rfl ?_ | refine VV.div rfl ⟨by omega, by omega, by omega⟩ ?_ | refine VV.rem rfl ⟨by omega, by omega, by omega⟩ ?_ | refine VV.s rfl ?_  | refine VV.b (b_ltT (by omega) (by omega)) ?_ | refine VV.b (b_ltF (by omega) (by omega)) ?_ | refine VV.b (b_geT (by omega) (by omega)) ?_ | refine VV.b (b_geF (by omega) (by omega)) ?_ | refine VV.b (b_gtT (by omega) (by omega)) ?_ | refine VV.b (b_gtF (by omega) (by omega)) ?_ | refine VV.b (b_leT (by omega) (by omega)) ?_ | refine VV.b (b_leF (by omega) (by omega)) ?_ | refine VV.b (b_eqT (by omega) (by omega)) ?_ | refine VV.b (b_eqF (by omega) (by omega)) ?_ | refine VV.b (b_neT (by omega) (by omega)) ?_ | refine VV.b (b_neF (by omega) (by omega)) ?_)
    · intro j t hj ht nx2
      have := nx2 (t + (if k < n then B 4 (4 * k + j) else 0) * B 8 j) (by rw [sJ, ht])
      repeat (first | refine VV.add rfl ?_ | refine VV.inc rfl rfl rfl ?_ | refine VV.mul rfl ?_ | refine VV.sub rfl (by omega) ?_ | refine VV.shl1 rfl (by omega) ?_ | refine VV.shl rfl ⟨by omega, by omega⟩ ?_ | refine VV.shr rfl ⟨by omega, by omega⟩ ?_ | refine VV.and rfl ?_ | refine VV.div rfl ⟨by omega, by omega, by omega⟩ ?_ | refine VV.rem rfl ⟨by omega, by omega, by omega⟩ ?_ | refine VV.s rfl ?_  | refine VV.b (b_ltT (by omega) (by omega)) ?_ | refine VV.b (b_ltF (by omega) (by omega)) ?_ | refine VV.b (b_geT (by omega) (by omega)) ?_ | refine VV.b (b_geF (by omega) (by omega)) ?_ | refine VV.b (b_gtT (by omega) (by omega)) ?_ | refine VV.b (b_gtF (by omega) (by omega)) ?_ | refine VV.b (b_leT (by omega) (by omega)) ?_ | refine VV.b (b_leF (by omega) (by omega)) ?_ | refine VV.b (b_eqT (by omega) (by omega)) ?_ | refine VV.b (b_eqF (by omega) (by omega)) ?_ | refine VV.b (b_neT (by omega) (by omega)) ?_ | refine VV.b (b_neF (by omega) (by omega)) ?_)
      (refine VV.c rfl ?_; refine c_lines (g := 3) rfl hn h4 ?_)
      repeat (first | refine VV.add rfl ?_ | refine VV.inc rfl rfl rfl ?_ | refine VV.mul rfl ?_ | refine VV.sub rfl (by omega) ?_ | refine VV.shl1 rfl (by omega) ?_ | refine VV.shl rfl ⟨by omega, by omega⟩ ?_ | refine VV.shr rfl ⟨by omega, by omega⟩ ?_ | refine VV.and rfl ?_ | refine VV.div rfl ⟨by omega, by omega, by omega⟩ ?_ | refine VV.rem rfl ⟨by omega, by omega, by omega⟩ ?_ | refine VV.s rfl ?_  | refine VV.b (b_ltT (by omega) (by omega)) ?_ | refine VV.b (b_ltF (by omega) (by omega)) ?_ | refine VV.b (b_geT (by omega) (by omega)) ?_ | refine VV.b (b_geF (by omega) (by omega)) ?_ | refine VV.b (b_gtT (by omega) (by omega)) ?_ | refine VV.b (b_gtF (by omega) (by omega)) ?_ | refine VV.b (b_leT (by omega) (by omega)) ?_ | refine VV.b (b_leF (by omega) (by omega)) ?_ | refine VV.b (b_eqT (by omega) (by omega)) ?_ | refine VV.b (b_eqF (by omega) (by omega)) ?_ | refine VV.b (b_neT (by omega) (by omega)) ?_ | refine VV.b (b_neF (by omega) (by omega)) ?_)
      (refine VV.c rfl ?_; refine c_atx (g := 3) rfl hn h4 hk hj ?_)
      repeat refine VV.s rfl ?_
      (refine VV.c rfl ?_; refine cn_vectorAt hn h4 hj ?_)
      repeat (first | exact this | refine VV.add rfl ?_ | refine VV.inc rfl rfl rfl ?_ | refine VV.mul rfl ?_ | refine VV.sub rfl (by omega) ?_ | refine VV.shl1 rfl (by omega) ?_ | refine VV.shl rfl ⟨by omega, by omega⟩ ?_ | refine VV.shr rfl ⟨by omega, by omega⟩ ?_ | refine VV.and rfl ?_ | refine VV.div rfl ⟨by omega, by omega, by omega⟩ ?_ | refine VV.rem rfl ⟨by omega, by omega, by omega⟩ ?_ | refine VV.s rfl ?_  | refine VV.b (b_ltT (by omega) (by omega)) ?_ | refine VV.b (b_ltF (by omega) (by omega)) ?_ | refine VV.b (b_geT (by omega) (by omega)) ?_ | refine VV.b (b_geF (by omega) (by omega)) ?_ | refine VV.b (b_gtT (by omega) (by omega)) ?_ | refine VV.b (b_gtF (by omega) (by omega)) ?_ | refine VV.b (b_leT (by omega) (by omega)) ?_ | refine VV.b (b_leF (by omega) (by omega)) ?_ | refine VV.b (b_eqT (by omega) (by omega)) ?_ | refine VV.b (b_eqF (by omega) (by omega)) ?_ | refine VV.b (b_neT (by omega) (by omega)) ?_ | refine VV.b (b_neF (by omega) (by omega)) ?_)
    · intro t ht
      have := nxt (up W k t) (fun i hi => by
        by_cases e : i = k
        · rw [e, up_s, ht]; rfl
        · rw [up_n e]; exact hW i (by omega)) (some (.long t)) none (some (.int (nI n)))
      repeat (first | refine VV.add rfl ?_ | refine VV.inc rfl rfl rfl ?_ | refine VV.mul rfl ?_ | refine VV.sub rfl (by omega) ?_ | refine VV.shl1 rfl (by omega) ?_ | refine VV.shl rfl ⟨by omega, by omega⟩ ?_ | refine VV.shr rfl ⟨by omega, by omega⟩ ?_ | refine VV.and rfl ?_ | refine VV.div rfl ⟨by omega, by omega, by omega⟩ ?_ | refine VV.rem rfl ⟨by omega, by omega, by omega⟩ ?_ | refine VV.s rfl ?_  | refine VV.b (b_ltT (by omega) (by omega)) ?_ | refine VV.b (b_ltF (by omega) (by omega)) ?_ | refine VV.b (b_geT (by omega) (by omega)) ?_ | refine VV.b (b_geF (by omega) (by omega)) ?_ | refine VV.b (b_gtT (by omega) (by omega)) ?_ | refine VV.b (b_gtF (by omega) (by omega)) ?_ | refine VV.b (b_leT (by omega) (by omega)) ?_ | refine VV.b (b_leF (by omega) (by omega)) ?_ | refine VV.b (b_eqT (by omega) (by omega)) ?_ | refine VV.b (b_eqF (by omega) (by omega)) ?_ | refine VV.b (b_neT (by omega) (by omega)) ?_ | refine VV.b (b_neF (by omega) (by omega)) ?_)
      (refine VV.c rfl ?_; refine c_lines (g := 3) rfl hn h4 ?_)
      repeat (first | refine VV.add rfl ?_ | refine VV.inc rfl rfl rfl ?_ | refine VV.mul rfl ?_ | refine VV.sub rfl (by omega) ?_ | refine VV.shl1 rfl (by omega) ?_ | refine VV.shl rfl ⟨by omega, by omega⟩ ?_ | refine VV.shr rfl ⟨by omega, by omega⟩ ?_ | refine VV.and rfl ?_ | refine VV.div rfl ⟨by omega, by omega, by omega⟩ ?_ | refine VV.rem rfl ⟨by omega, by omega, by omega⟩ ?_ | refine VV.s rfl ?_  | refine VV.b (b_ltT (by omega) (by omega)) ?_ | refine VV.b (b_ltF (by omega) (by omega)) ?_ | refine VV.b (b_geT (by omega) (by omega)) ?_ | refine VV.b (b_geF (by omega) (by omega)) ?_ | refine VV.b (b_gtT (by omega) (by omega)) ?_ | refine VV.b (b_gtF (by omega) (by omega)) ?_ | refine VV.b (b_leT (by omega) (by omega)) ?_ | refine VV.b (b_leF (by omega) (by omega)) ?_ | refine VV.b (b_eqT (by omega) (by omega)) ?_ | refine VV.b (b_eqF (by omega) (by omega)) ?_ | refine VV.b (b_neT (by omega) (by omega)) ?_ | refine VV.b (b_neF (by omega) (by omega)) ?_)
      refine VV.js rfl rfl rfl (show k < 4 from hk) ?_
      rw [up_up, up_s]
      repeat (first | exact this | refine VV.add rfl ?_ | refine VV.inc rfl rfl rfl ?_ | refine VV.mul rfl ?_ | refine VV.sub rfl (by omega) ?_ | refine VV.shl1 rfl (by omega) ?_ | refine VV.shl rfl ⟨by omega, by omega⟩ ?_ | refine VV.shr rfl ⟨by omega, by omega⟩ ?_ | refine VV.and rfl ?_ | refine VV.div rfl ⟨by omega, by omega, by omega⟩ ?_ | refine VV.rem rfl ⟨by omega, by omega, by omega⟩ ?_ | refine VV.s rfl ?_  | refine VV.b (b_ltT (by omega) (by omega)) ?_ | refine VV.b (b_ltF (by omega) (by omega)) ?_ | refine VV.b (b_geT (by omega) (by omega)) ?_ | refine VV.b (b_geF (by omega) (by omega)) ?_ | refine VV.b (b_gtT (by omega) (by omega)) ?_ | refine VV.b (b_gtF (by omega) (by omega)) ?_ | refine VV.b (b_leT (by omega) (by omega)) ?_ | refine VV.b (b_leF (by omega) (by omega)) ?_ | refine VV.b (b_eqT (by omega) (by omega)) ?_ | refine VV.b (b_eqF (by omega) (by omega)) ?_ | refine VV.b (b_neT (by omega) (by omega)) ?_ | refine VV.b (b_neF (by omega) (by omega)) ?_)
  · intro W hW x2 x3 x4
    have := q W hW
    repeat (first | refine VV.jln (a := 45) (n := 4) rfl rfl rfl ?_ | refine VV.add rfl ?_ | refine VV.inc rfl rfl rfl ?_ | refine VV.mul rfl ?_ | refine VV.sub rfl (by omega) ?_ | refine VV.shl1 rfl (by omega) ?_ | refine VV.shl rfl ⟨by omega, by omega⟩ ?_ | refine VV.shr rfl ⟨by omega, by omega⟩ ?_ | refine VV.and rfl ?_ | refine VV.div rfl ⟨by omega, by omega, by omega⟩ ?_ | refine VV.rem rfl ⟨by omega, by omega, by omega⟩ ?_ | refine VV.s rfl ?_  | refine VV.b (b_ltT (by omega) (by omega)) ?_ | refine VV.b (b_ltF (by omega) (by omega)) ?_ | refine VV.b (b_geT (by omega) (by omega)) ?_ | refine VV.b (b_geF (by omega) (by omega)) ?_ | refine VV.b (b_gtT (by omega) (by omega)) ?_ | refine VV.b (b_gtF (by omega) (by omega)) ?_ | refine VV.b (b_leT (by omega) (by omega)) ?_ | refine VV.b (b_leF (by omega) (by omega)) ?_ | refine VV.b (b_eqT (by omega) (by omega)) ?_ | refine VV.b (b_eqF (by omega) (by omega)) ?_ | refine VV.b (b_neT (by omega) (by omega)) ?_ | refine VV.b (b_neF (by omega) (by omega)) ?_)
    (refine VV.c rfl ?_; refine cx_changes (a := 45) rfl rfl ?_)
    rw [chL_congr (f := up B 45 W 45) (g := tvr (B 4) (B 8) n) 4 (fun j hj => by rw [up_s]; exact hW j hj)]
    exact VV.r rfl this
end XC
theorem c_rowOfN {d i j : Nat} {h : Hp} {Q : Option Value → Hp → Prop} (hj : j < 10) (hb : 10 * i + j < 2147483648) (q : Q (some (.int (nI i))) h) : CC d M_T_rowOf [.int (nI (10 * i + j))] h Q := by
  refine CC.of rfl ?_
  repeat (first | refine VV.add rfl ?_ | refine VV.inc rfl rfl rfl ?_ | refine VV.mul rfl ?_ | refine VV.sub rfl (by omega) ?_ | refine VV.shl1 rfl (by omega) ?_ | refine VV.shl rfl ⟨by omega, by omega⟩ ?_ | refine VV.shr rfl ⟨by omega, by omega⟩ ?_ | refine VV.and rfl ?_ | refine VV.div rfl ⟨by omega, by omega, by omega⟩ ?_ | refine VV.rem rfl ⟨by omega, by omega, by omega⟩ ?_ | refine VV.s rfl ?_  | refine VV.b (b_ltT (by omega) (by omega)) ?_ | refine VV.b (b_ltF (by omega) (by omega)) ?_ | refine VV.b (b_geT (by omega) (by omega)) ?_ | refine VV.b (b_geF (by omega) (by omega)) ?_ | refine VV.b (b_gtT (by omega) (by omega)) ?_ | refine VV.b (b_gtF (by omega) (by omega)) ?_ | refine VV.b (b_leT (by omega) (by omega)) ?_ | refine VV.b (b_leF (by omega) (by omega)) ?_ | refine VV.b (b_eqT (by omega) (by omega)) ?_ | refine VV.b (b_eqF (by omega) (by omega)) ?_ | refine VV.b (b_neT (by omega) (by omega)) ?_ | refine VV.b (b_neF (by omega) (by omega)) ?_)
  rw [show (10 * i + j) / 10 = i by omega]
  exact VV.r rfl q
theorem c_columnOfN {d i j : Nat} {h : Hp} {Q : Option Value → Hp → Prop} (hj : j < 10) (hb : 10 * i + j < 2147483648) (q : Q (some (.int (nI j))) h) : CC d M_T_columnOf [.int (nI (10 * i + j))] h Q := by
  refine CC.of rfl ?_
  repeat (first | refine VV.add rfl ?_ | refine VV.inc rfl rfl rfl ?_ | refine VV.mul rfl ?_ | refine VV.sub rfl (by omega) ?_ | refine VV.shl1 rfl (by omega) ?_ | refine VV.shl rfl ⟨by omega, by omega⟩ ?_ | refine VV.shr rfl ⟨by omega, by omega⟩ ?_ | refine VV.and rfl ?_ | refine VV.div rfl ⟨by omega, by omega, by omega⟩ ?_ | refine VV.rem rfl ⟨by omega, by omega, by omega⟩ ?_ | refine VV.s rfl ?_  | refine VV.b (b_ltT (by omega) (by omega)) ?_ | refine VV.b (b_ltF (by omega) (by omega)) ?_ | refine VV.b (b_geT (by omega) (by omega)) ?_ | refine VV.b (b_geF (by omega) (by omega)) ?_ | refine VV.b (b_gtT (by omega) (by omega)) ?_ | refine VV.b (b_gtF (by omega) (by omega)) ?_ | refine VV.b (b_leT (by omega) (by omega)) ?_ | refine VV.b (b_leF (by omega) (by omega)) ?_ | refine VV.b (b_eqT (by omega) (by omega)) ?_ | refine VV.b (b_eqF (by omega) (by omega)) ?_ | refine VV.b (b_neT (by omega) (by omega)) ?_ | refine VV.b (b_neF (by omega) (by omega)) ?_)
  rw [show (10 * i + j) % 10 = j by omega]
  exact VV.r rfl q
section X5
variable {d : Nat} {s : St}
theorem x_feed (i : IV s) {x : Int32} : KX (d + 3) M_T_feed [.ref 1, .int x] s (oFeed s x) := by
  intro S τ A B Q h q
  unfold oFeed at q
  have ht := i.tm
  have hth := h.th
  refine CC.of rfl ?_
  refine VV.s rfl ?_
  refine VV.s rfl ?_
  refine VV.i (fun c1 => ?_) (fun c1 => ?_)
  · rw [rgB_lo (show x < nI 0 from c1)] at q
    repeat refine VV.s rfl ?_
    exact VV.r rfl (q τ A B h FX.refl)
  refine VV.s rfl ?_
  refine VV.s rfl ?_
  refine VV.s rfl ?_
  refine VV.i (fun c2 => ?_) (fun c2 => ?_)
  · rw [rgB_hi c2] at q
    repeat refine VV.s rfl ?_
    exact VV.r rfl (q τ A B h FX.refl)
  rw [rgB_in (show ¬ x < nI 0 from c1) c2, if_pos rfl] at q
  repeat refine VV.s rfl ?_
  refine VV.c rfl (CC.of rfl ?_)
  by_cases c : s.tm = 100
  · rw [if_pos c] at q
    repeat (first | refine VV.gn rfl rfl rfl hth ?_ | refine VV.iln (a := 39) (n := 100) rfl rfl rfl ?_ | refine VV.add rfl ?_ | refine VV.inc rfl rfl rfl ?_ | refine VV.mul rfl ?_ | refine VV.sub rfl (by omega) ?_ | refine VV.shl1 rfl (by omega) ?_ | refine VV.shl rfl ⟨by omega, by omega⟩ ?_ | refine VV.shr rfl ⟨by omega, by omega⟩ ?_ | refine VV.and rfl ?_ | refine VV.div rfl ⟨by omega, by omega, by omega⟩ ?_ | refine VV.rem rfl ⟨by omega, by omega, by omega⟩ ?_ | refine VV.s rfl ?_  | refine VV.b (b_ltT (by omega) (by omega)) ?_ | refine VV.b (b_ltF (by omega) (by omega)) ?_ | refine VV.b (b_geT (by omega) (by omega)) ?_ | refine VV.b (b_geF (by omega) (by omega)) ?_ | refine VV.b (b_gtT (by omega) (by omega)) ?_ | refine VV.b (b_gtF (by omega) (by omega)) ?_ | refine VV.b (b_leT (by omega) (by omega)) ?_ | refine VV.b (b_leF (by omega) (by omega)) ?_ | refine VV.b (b_eqT (by omega) (by omega)) ?_ | refine VV.b (b_eqF (by omega) (by omega)) ?_ | refine VV.b (b_neT (by omega) (by omega)) ?_ | refine VV.b (b_neF (by omega) (by omega)) ?_)
    refine VV.r rfl ?_
    repeat (first | refine VV.add rfl ?_ | refine VV.inc rfl rfl rfl ?_ | refine VV.mul rfl ?_ | refine VV.sub rfl (by omega) ?_ | refine VV.shl1 rfl (by omega) ?_ | refine VV.shl rfl ⟨by omega, by omega⟩ ?_ | refine VV.shr rfl ⟨by omega, by omega⟩ ?_ | refine VV.and rfl ?_ | refine VV.div rfl ⟨by omega, by omega, by omega⟩ ?_ | refine VV.rem rfl ⟨by omega, by omega, by omega⟩ ?_ | refine VV.s rfl ?_  | refine VV.b (b_ltT (by omega) (by omega)) ?_ | refine VV.b (b_ltF (by omega) (by omega)) ?_ | refine VV.b (b_geT (by omega) (by omega)) ?_ | refine VV.b (b_geF (by omega) (by omega)) ?_ | refine VV.b (b_gtT (by omega) (by omega)) ?_ | refine VV.b (b_gtF (by omega) (by omega)) ?_ | refine VV.b (b_leT (by omega) (by omega)) ?_ | refine VV.b (b_leF (by omega) (by omega)) ?_ | refine VV.b (b_eqT (by omega) (by omega)) ?_ | refine VV.b (b_eqF (by omega) (by omega)) ?_ | refine VV.b (b_neT (by omega) (by omega)) ?_ | refine VV.b (b_neF (by omega) (by omega)) ?_)
    exact VV.r rfl (q τ A B h FX.refl)
  · rw [if_neg c] at q
    repeat (first | refine VV.gn rfl rfl rfl hth ?_ | refine VV.iln (a := 39) (n := 100) rfl rfl rfl ?_ | refine VV.add rfl ?_ | refine VV.inc rfl rfl rfl ?_ | refine VV.mul rfl ?_ | refine VV.sub rfl (by omega) ?_ | refine VV.shl1 rfl (by omega) ?_ | refine VV.shl rfl ⟨by omega, by omega⟩ ?_ | refine VV.shr rfl ⟨by omega, by omega⟩ ?_ | refine VV.and rfl ?_ | refine VV.div rfl ⟨by omega, by omega, by omega⟩ ?_ | refine VV.rem rfl ⟨by omega, by omega, by omega⟩ ?_ | refine VV.s rfl ?_  | refine VV.b (b_ltT (by omega) (by omega)) ?_ | refine VV.b (b_ltF (by omega) (by omega)) ?_ | refine VV.b (b_geT (by omega) (by omega)) ?_ | refine VV.b (b_geF (by omega) (by omega)) ?_ | refine VV.b (b_gtT (by omega) (by omega)) ?_ | refine VV.b (b_gtF (by omega) (by omega)) ?_ | refine VV.b (b_leT (by omega) (by omega)) ?_ | refine VV.b (b_leF (by omega) (by omega)) ?_ | refine VV.b (b_eqT (by omega) (by omega)) ?_ | refine VV.b (b_eqF (by omega) (by omega)) ?_ | refine VV.b (b_neT (by omega) (by omega)) ?_ | refine VV.b (b_neF (by omega) (by omega)) ?_)
    refine VV.r rfl ?_
    repeat (first | refine VV.add rfl ?_ | refine VV.inc rfl rfl rfl ?_ | refine VV.mul rfl ?_ | refine VV.sub rfl (by omega) ?_ | refine VV.shl1 rfl (by omega) ?_ | refine VV.shl rfl ⟨by omega, by omega⟩ ?_ | refine VV.shr rfl ⟨by omega, by omega⟩ ?_ | refine VV.and rfl ?_ | refine VV.div rfl ⟨by omega, by omega, by omega⟩ ?_ | refine VV.rem rfl ⟨by omega, by omega, by omega⟩ ?_ | refine VV.s rfl ?_  | refine VV.b (b_ltT (by omega) (by omega)) ?_ | refine VV.b (b_ltF (by omega) (by omega)) ?_ | refine VV.b (b_geT (by omega) (by omega)) ?_ | refine VV.b (b_geF (by omega) (by omega)) ?_ | refine VV.b (b_gtT (by omega) (by omega)) ?_ | refine VV.b (b_gtF (by omega) (by omega)) ?_ | refine VV.b (b_leT (by omega) (by omega)) ?_ | refine VV.b (b_leF (by omega) (by omega)) ?_ | refine VV.b (b_eqT (by omega) (by omega)) ?_ | refine VV.b (b_eqF (by omega) (by omega)) ?_ | refine VV.b (b_neT (by omega) (by omega)) ?_ | refine VV.b (b_neF (by omega) (by omega)) ?_)
    refine VV.c rfl (CC.of rfl ?_)
    repeat (first | refine VV.gn rfl rfl rfl hth ?_ | refine VV.iln (a := 39) (n := 100) rfl rfl rfl ?_ | refine VV.add rfl ?_ | refine VV.inc rfl rfl rfl ?_ | refine VV.mul rfl ?_ | refine VV.sub rfl (by omega) ?_ | refine VV.shl1 rfl (by omega) ?_ | refine VV.shl rfl ⟨by omega, by omega⟩ ?_ | refine VV.shr rfl ⟨by omega, by omega⟩ ?_ | refine VV.and rfl ?_ | refine VV.div rfl ⟨by omega, by omega, by omega⟩ ?_ | refine VV.rem rfl ⟨by omega, by omega, by omega⟩ ?_ | refine VV.s rfl ?_  | refine VV.b (b_ltT (by omega) (by omega)) ?_ | refine VV.b (b_ltF (by omega) (by omega)) ?_ | refine VV.b (b_geT (by omega) (by omega)) ?_ | refine VV.b (b_geF (by omega) (by omega)) ?_ | refine VV.b (b_gtT (by omega) (by omega)) ?_ | refine VV.b (b_gtF (by omega) (by omega)) ?_ | refine VV.b (b_leT (by omega) (by omega)) ?_ | refine VV.b (b_leF (by omega) (by omega)) ?_ | refine VV.b (b_eqT (by omega) (by omega)) ?_ | refine VV.b (b_eqF (by omega) (by omega)) ?_ | refine VV.b (b_neT (by omega) (by omega)) ?_ | refine VV.b (b_neF (by omega) (by omega)) ?_)
    refine VV.is rfl rfl rfl (show s.tm < 100 by omega) ?_
    refine VV.s rfl ?_
    refine VV.s rfl ?_
    refine VV.gn rfl rfl rfl hth ?_
    refine VV.s rfl ?_
    refine VV.add rfl ?_
    refine VV.p rfl rfl (show 2 < 5 by decide) rfl (wf_3802 _ _ _ _ _) ?_
    repeat refine VV.s rfl ?_
    refine VV.r rfl ?_
    refine VV.r rfl (q _ _ _ (RX.mk (h.now.fr (fun k hk => up_n (by omega)) (fun k hk => up_n (by omega)) (fun _ _ => rfl) (by omega)) h.im0 (fun c e => ⟨(h.im1 c e).1, (h.im1 c e).2.fr (fun k hk => up_n (by omega)) (fun k hk => up_n (by omega)) (fun _ _ => rfl) (by omega)⟩) rfl (fun k hk => ?_) (fun t ht => by rw [up_n (by omega)]; exact h.ts t ht) (fun t ht => by rw [up_n (by omega)]; exact h.tl t ht) h.ti) (FX.ut (by decide) (FX.ua (by decide) FX.refl)))
    have hk2 : k < s.tm + 1 := hk
    show up (A 39) s.tm x k = up s.tx s.tm x k
    by_cases e : k = s.tm
    · rw [e, up_s, up_s]
    · rw [up_n e, up_n e]
      exact h.tx k (by omega)
theorem x_of (i : IV s) {a x : Int32} : KX (d + 3) M_T_of [.ref 1, .int a, .int x] s (oOf s a x) := by
  intro S τ A B Q h q
  unfold oOf at q
  have hn : τ (100 * 3 + 2) = nI s.c.n := h.now.n
  have h4 := i.c.n4
  have no : ¬ (a = nI 0 ∧ spB s.c.n x = true) → VV (d + 3) M_T_of 33 [some (.ref 1), some (.int a), some (.int x)] [] (HH S τ A B) Q := by
    intro c
    rw [if_neg c] at q
    refine VV.s rfl ?_
    refine VV.s rfl ?_
    refine VV.s rfl ?_
    refine VV.i (fun c1 => ?_) (fun c1 => ?_)
    · repeat refine VV.s rfl ?_
      (refine VV.c rfl ?_; refine cn_isInVector hn h4 ?_)
      cases hb : ltB s.c.n x with
      | false =>
        rw [if_neg (fun z => by rw [hb] at z; cases z.2)] at q
        repeat (first | refine VV.add rfl ?_ | refine VV.inc rfl rfl rfl ?_ | refine VV.mul rfl ?_ | refine VV.sub rfl (by omega) ?_ | refine VV.shl1 rfl (by omega) ?_ | refine VV.shl rfl ⟨by omega, by omega⟩ ?_ | refine VV.shr rfl ⟨by omega, by omega⟩ ?_ | refine VV.and rfl ?_ | refine VV.div rfl ⟨by omega, by omega, by omega⟩ ?_ | refine VV.rem rfl ⟨by omega, by omega, by omega⟩ ?_ | refine VV.s rfl ?_  | refine VV.b (b_ltT (by omega) (by omega)) ?_ | refine VV.b (b_ltF (by omega) (by omega)) ?_ | refine VV.b (b_geT (by omega) (by omega)) ?_ | refine VV.b (b_geF (by omega) (by omega)) ?_ | refine VV.b (b_gtT (by omega) (by omega)) ?_ | refine VV.b (b_gtF (by omega) (by omega)) ?_ | refine VV.b (b_leT (by omega) (by omega)) ?_ | refine VV.b (b_leF (by omega) (by omega)) ?_ | refine VV.b (b_eqT (by omega) (by omega)) ?_ | refine VV.b (b_eqF (by omega) (by omega)) ?_ | refine VV.b (b_neT (by omega) (by omega)) ?_ | refine VV.b (b_neF (by omega) (by omega)) ?_)
        exact VV.r rfl (q τ A B h FX.refl)
      | true =>
        rw [if_pos ⟨c1, hb⟩] at q
        obtain ⟨k, hk, rfl⟩ := ltB_spec hb
        rw [nI_clamp (by omega), ← h.now.V k (by omega)] at q
        show VV _ _ _ _ [.int (nI 1)] _ _
        repeat (first | refine VV.add rfl ?_ | refine VV.inc rfl rfl rfl ?_ | refine VV.mul rfl ?_ | refine VV.sub rfl (by omega) ?_ | refine VV.shl1 rfl (by omega) ?_ | refine VV.shl rfl ⟨by omega, by omega⟩ ?_ | refine VV.shr rfl ⟨by omega, by omega⟩ ?_ | refine VV.and rfl ?_ | refine VV.div rfl ⟨by omega, by omega, by omega⟩ ?_ | refine VV.rem rfl ⟨by omega, by omega, by omega⟩ ?_ | refine VV.s rfl ?_  | refine VV.b (b_ltT (by omega) (by omega)) ?_ | refine VV.b (b_ltF (by omega) (by omega)) ?_ | refine VV.b (b_geT (by omega) (by omega)) ?_ | refine VV.b (b_geF (by omega) (by omega)) ?_ | refine VV.b (b_gtT (by omega) (by omega)) ?_ | refine VV.b (b_gtF (by omega) (by omega)) ?_ | refine VV.b (b_leT (by omega) (by omega)) ?_ | refine VV.b (b_leF (by omega) (by omega)) ?_ | refine VV.b (b_eqT (by omega) (by omega)) ?_ | refine VV.b (b_eqF (by omega) (by omega)) ?_ | refine VV.b (b_neT (by omega) (by omega)) ?_ | refine VV.b (b_neF (by omega) (by omega)) ?_)
        (refine VV.c rfl ?_; refine cn_vectorAt hn h4 hk ?_)
        (refine VV.c rfl ?_; refine cl_raised ?_)
        exact VV.r rfl (q τ A B h FX.refl)
    · rw [if_neg (fun z => c1 z.1)] at q
      repeat refine VV.s rfl ?_
      exact VV.r rfl (q τ A B h FX.refl)
  refine CC.of rfl ?_
  refine VV.s rfl ?_
  refine VV.s rfl ?_
  refine VV.i (fun c1 => ?_) (fun c1 => ?_)
  · repeat refine VV.s rfl ?_
    (refine VV.c rfl ?_; refine c_hasSpot (g := 3) rfl hn h4 ?_)
    cases hb : spB s.c.n x with
    | false =>
      have := no (fun z => by rw [hb] at z; cases z.2)
      repeat (first | exact this | refine VV.add rfl ?_ | refine VV.inc rfl rfl rfl ?_ | refine VV.mul rfl ?_ | refine VV.sub rfl (by omega) ?_ | refine VV.shl1 rfl (by omega) ?_ | refine VV.shl rfl ⟨by omega, by omega⟩ ?_ | refine VV.shr rfl ⟨by omega, by omega⟩ ?_ | refine VV.and rfl ?_ | refine VV.div rfl ⟨by omega, by omega, by omega⟩ ?_ | refine VV.rem rfl ⟨by omega, by omega, by omega⟩ ?_ | refine VV.s rfl ?_  | refine VV.b (b_ltT (by omega) (by omega)) ?_ | refine VV.b (b_ltF (by omega) (by omega)) ?_ | refine VV.b (b_geT (by omega) (by omega)) ?_ | refine VV.b (b_geF (by omega) (by omega)) ?_ | refine VV.b (b_gtT (by omega) (by omega)) ?_ | refine VV.b (b_gtF (by omega) (by omega)) ?_ | refine VV.b (b_leT (by omega) (by omega)) ?_ | refine VV.b (b_leF (by omega) (by omega)) ?_ | refine VV.b (b_eqT (by omega) (by omega)) ?_ | refine VV.b (b_eqF (by omega) (by omega)) ?_ | refine VV.b (b_neT (by omega) (by omega)) ?_ | refine VV.b (b_neF (by omega) (by omega)) ?_)
    | true =>
      rw [if_pos ⟨c1, hb⟩] at q
      obtain ⟨b, c, hb2, hc10, hcn, rfl, hbc⟩ := spB_spec hb
      rw [cel_nI hc10 hbc, ← h.now.E b c hb2 hcn] at q
      show VV _ _ _ _ [.int (nI 1)] _ _
      repeat (first | refine VV.add rfl ?_ | refine VV.inc rfl rfl rfl ?_ | refine VV.mul rfl ?_ | refine VV.sub rfl (by omega) ?_ | refine VV.shl1 rfl (by omega) ?_ | refine VV.shl rfl ⟨by omega, by omega⟩ ?_ | refine VV.shr rfl ⟨by omega, by omega⟩ ?_ | refine VV.and rfl ?_ | refine VV.div rfl ⟨by omega, by omega, by omega⟩ ?_ | refine VV.rem rfl ⟨by omega, by omega, by omega⟩ ?_ | refine VV.s rfl ?_  | refine VV.b (b_ltT (by omega) (by omega)) ?_ | refine VV.b (b_ltF (by omega) (by omega)) ?_ | refine VV.b (b_geT (by omega) (by omega)) ?_ | refine VV.b (b_geF (by omega) (by omega)) ?_ | refine VV.b (b_gtT (by omega) (by omega)) ?_ | refine VV.b (b_gtF (by omega) (by omega)) ?_ | refine VV.b (b_leT (by omega) (by omega)) ?_ | refine VV.b (b_leF (by omega) (by omega)) ?_ | refine VV.b (b_eqT (by omega) (by omega)) ?_ | refine VV.b (b_eqF (by omega) (by omega)) ?_ | refine VV.b (b_neT (by omega) (by omega)) ?_ | refine VV.b (b_neF (by omega) (by omega)) ?_)
      (refine VV.c rfl ?_; refine c_atSpot (g := 3) rfl hn h4 hb2 hcn ?_)
      (refine VV.c rfl ?_; refine cl_raised ?_)
      exact VV.r rfl (q τ A B h FX.refl)
  · exact no (fun z => c1 z.1)
theorem x_chipOf (i : IV s) {x w : Int32} : KX (d + 3) M_T_chipOf [.ref 1, .int x, .int w] s (oChipOf s x w) := by
  intro S τ A B Q h q
  unfold oChipOf at q
  refine CC.of rfl ?_
  repeat refine VV.s rfl ?_
  (refine VV.c rfl ?_; refine cr_has (o := 6) rfl h.now.chip.h i.c.cm ?_)
  cases hb : ltB (s.c.m 1) x with
  | false =>
    rw [if_neg (fun z => by rw [hb] at z; cases z.1)] at q
    repeat (first | refine VV.add rfl ?_ | refine VV.inc rfl rfl rfl ?_ | refine VV.mul rfl ?_ | refine VV.sub rfl (by omega) ?_ | refine VV.shl1 rfl (by omega) ?_ | refine VV.shl rfl ⟨by omega, by omega⟩ ?_ | refine VV.shr rfl ⟨by omega, by omega⟩ ?_ | refine VV.and rfl ?_ | refine VV.div rfl ⟨by omega, by omega, by omega⟩ ?_ | refine VV.rem rfl ⟨by omega, by omega, by omega⟩ ?_ | refine VV.s rfl ?_  | refine VV.b (b_ltT (by omega) (by omega)) ?_ | refine VV.b (b_ltF (by omega) (by omega)) ?_ | refine VV.b (b_geT (by omega) (by omega)) ?_ | refine VV.b (b_geF (by omega) (by omega)) ?_ | refine VV.b (b_gtT (by omega) (by omega)) ?_ | refine VV.b (b_gtF (by omega) (by omega)) ?_ | refine VV.b (b_leT (by omega) (by omega)) ?_ | refine VV.b (b_leF (by omega) (by omega)) ?_ | refine VV.b (b_eqT (by omega) (by omega)) ?_ | refine VV.b (b_eqF (by omega) (by omega)) ?_ | refine VV.b (b_neT (by omega) (by omega)) ?_ | refine VV.b (b_neF (by omega) (by omega)) ?_)
    exact VV.r rfl (q τ A B h FX.refl)
  | true =>
    show VV _ _ _ _ [.int (nI 1)] _ _
    refine VV.s rfl ?_
    refine VV.b (b_eqF (by omega) (by omega)) ?_
    refine VV.s rfl ?_
    refine VV.s rfl ?_
    refine VV.i (fun c1 => ?_) (fun c1 => ?_)
    · rw [if_neg (fun z => by rw [rgB_lo (show w < nI 0 from c1)] at z; cases z.2)] at q
      repeat refine VV.s rfl ?_
      exact VV.r rfl (q τ A B h FX.refl)
    refine VV.s rfl ?_
    refine VV.s rfl ?_
    refine VV.s rfl ?_
    refine VV.i (fun c2 => ?_) (fun c2 => ?_)
    · rw [if_neg (fun z => by rw [rgB_hi c2] at z; cases z.2)] at q
      repeat refine VV.s rfl ?_
      exact VV.r rfl (q τ A B h FX.refl)
    rw [if_pos ⟨hb, rgB_in (show ¬ w < nI 0 from c1) c2⟩] at q
    obtain ⟨k, hk, rfl⟩ := ltB_spec hb
    have hcm := i.c.cm
    obtain ⟨v, hv, rfl⟩ : ∃ v, v < 3 ∧ w = nI v := by
      rcases nI_or w with z | ⟨v, hv, rfl⟩
      · exact absurd z c1
      · exact ⟨v, Nat.lt_of_not_le (fun z => c2 ((nI_ltI (by omega) hv).mpr (by omega))), rfl⟩
    rw [nI_clamp (by omega), nI_clamp (by omega), ← h.now.chip.r k v hk hv] at q
    repeat refine VV.s rfl ?_
    (refine VV.c rfl ?_; refine cr_cell (o := 6) rfl h.now.chip.h i.c.cm hk hv ?_)
    exact VV.r rfl (q τ A B h FX.refl)
theorem x_noted (i : IV s) {x : Int32} : KX (d + 3) M_T_noted [.ref 1, .int x] s (oNoted s x) := by
  intro S τ A B Q h q
  unfold oNoted at q
  have hnm := i.c.nm
  refine CC.of rfl ?_
  refine VV.s rfl ?_
  refine VV.s rfl ?_
  refine VV.i (fun c1 => ?_) (fun c1 => ?_)
  · rw [if_pos (show x < nI 0 from c1)] at q
    repeat refine VV.s rfl ?_
    exact VV.r rfl (q τ A B h FX.refl)
  rw [if_neg (show ¬ x < nI 0 from c1)] at q
  repeat refine VV.s rfl ?_
  (refine VV.c rfl ?_; refine cr_has (o := 9) rfl h.now.note.h i.c.nm ?_)
  cases hb : ltB (s.c.m 2) x with
  | false =>
    rw [hb] at q
    repeat (first | refine VV.add rfl ?_ | refine VV.inc rfl rfl rfl ?_ | refine VV.mul rfl ?_ | refine VV.sub rfl (by omega) ?_ | refine VV.shl1 rfl (by omega) ?_ | refine VV.shl rfl ⟨by omega, by omega⟩ ?_ | refine VV.shr rfl ⟨by omega, by omega⟩ ?_ | refine VV.and rfl ?_ | refine VV.div rfl ⟨by omega, by omega, by omega⟩ ?_ | refine VV.rem rfl ⟨by omega, by omega, by omega⟩ ?_ | refine VV.s rfl ?_  | refine VV.b (b_ltT (by omega) (by omega)) ?_ | refine VV.b (b_ltF (by omega) (by omega)) ?_ | refine VV.b (b_geT (by omega) (by omega)) ?_ | refine VV.b (b_geF (by omega) (by omega)) ?_ | refine VV.b (b_gtT (by omega) (by omega)) ?_ | refine VV.b (b_gtF (by omega) (by omega)) ?_ | refine VV.b (b_leT (by omega) (by omega)) ?_ | refine VV.b (b_leF (by omega) (by omega)) ?_ | refine VV.b (b_eqT (by omega) (by omega)) ?_ | refine VV.b (b_eqF (by omega) (by omega)) ?_ | refine VV.b (b_neT (by omega) (by omega)) ?_ | refine VV.b (b_neF (by omega) (by omega)) ?_)
    exact VV.r rfl (q τ A B h FX.refl)
  | true =>
    rw [hb, if_pos rfl] at q
    obtain ⟨k, hk, rfl⟩ := ltB_spec hb
    rw [nI_clamp (by omega), ← h.now.note.r k 0 hk (by omega), ← h.now.note.r k 1 hk (by omega)] at q
    show VV _ _ _ _ [.int (nI 1)] _ _
    repeat refine VV.s rfl ?_
    (refine VV.c rfl ?_; refine cr_cell (o := 9) (w := 0) rfl h.now.note.h i.c.nm hk (by omega) ?_)
    repeat refine VV.s rfl ?_
    (refine VV.c rfl ?_; refine cr_cell (o := 9) (w := 1) rfl h.now.note.h i.c.nm hk (by omega) ?_)
    repeat refine VV.s rfl ?_
    exact VV.r rfl (q τ A B h FX.refl)
theorem x_first (i : IV s) {x : Int32} : KXJ (d + 5) M_T_first [.ref 1, .int x] s (oFirst s x) := by
  intro S τ A B Q h q
  unfold oFirst at q
  have hn : τ (100 * 3 + 2) = nI s.c.n := h.now.n
  have h4 := i.c.n4
  refine CC.of rfl ?_
  repeat refine VV.s rfl ?_
  (refine VV.c rfl ?_; refine c_hasSpot (g := 3) rfl hn h4 ?_)
  cases hb : spB s.c.n x with
  | false =>
    rw [hb] at q
    repeat (first | refine VV.add rfl ?_ | refine VV.inc rfl rfl rfl ?_ | refine VV.mul rfl ?_ | refine VV.sub rfl (by omega) ?_ | refine VV.shl1 rfl (by omega) ?_ | refine VV.shl rfl ⟨by omega, by omega⟩ ?_ | refine VV.shr rfl ⟨by omega, by omega⟩ ?_ | refine VV.and rfl ?_ | refine VV.div rfl ⟨by omega, by omega, by omega⟩ ?_ | refine VV.rem rfl ⟨by omega, by omega, by omega⟩ ?_ | refine VV.s rfl ?_  | refine VV.b (b_ltT (by omega) (by omega)) ?_ | refine VV.b (b_ltF (by omega) (by omega)) ?_ | refine VV.b (b_geT (by omega) (by omega)) ?_ | refine VV.b (b_geF (by omega) (by omega)) ?_ | refine VV.b (b_gtT (by omega) (by omega)) ?_ | refine VV.b (b_gtF (by omega) (by omega)) ?_ | refine VV.b (b_leT (by omega) (by omega)) ?_ | refine VV.b (b_leF (by omega) (by omega)) ?_ | refine VV.b (b_eqT (by omega) (by omega)) ?_ | refine VV.b (b_eqF (by omega) (by omega)) ?_ | refine VV.b (b_neT (by omega) (by omega)) ?_ | refine VV.b (b_neF (by omega) (by omega)) ?_)
    exact VV.r rfl (q τ A B h FX.refl)
  | true =>
    rw [hb, if_pos rfl] at q
    obtain ⟨a, b, ha, hb10, hbn, rfl, hab⟩ := spB_spec hb
    rw [nI_clamp (by omega), show (10 * a + b) / 10 = a by omega, show (10 * a + b) % 10 = b by omega, fmn_congr h4 (fun k l hk hl => (h.now.E k l hk hl).symm) ha hbn] at q
    show VV _ _ _ _ [.int (nI 1)] _ _
    repeat (first | refine VV.add rfl ?_ | refine VV.inc rfl rfl rfl ?_ | refine VV.mul rfl ?_ | refine VV.sub rfl (by omega) ?_ | refine VV.shl1 rfl (by omega) ?_ | refine VV.shl rfl ⟨by omega, by omega⟩ ?_ | refine VV.shr rfl ⟨by omega, by omega⟩ ?_ | refine VV.and rfl ?_ | refine VV.div rfl ⟨by omega, by omega, by omega⟩ ?_ | refine VV.rem rfl ⟨by omega, by omega, by omega⟩ ?_ | refine VV.s rfl ?_  | refine VV.b (b_ltT (by omega) (by omega)) ?_ | refine VV.b (b_ltF (by omega) (by omega)) ?_ | refine VV.b (b_geT (by omega) (by omega)) ?_ | refine VV.b (b_geF (by omega) (by omega)) ?_ | refine VV.b (b_gtT (by omega) (by omega)) ?_ | refine VV.b (b_gtF (by omega) (by omega)) ?_ | refine VV.b (b_leT (by omega) (by omega)) ?_ | refine VV.b (b_leF (by omega) (by omega)) ?_ | refine VV.b (b_eqT (by omega) (by omega)) ?_ | refine VV.b (b_eqF (by omega) (by omega)) ?_ | refine VV.b (b_neT (by omega) (by omega)) ?_ | refine VV.b (b_neF (by omega) (by omega)) ?_)
    (refine VV.c rfl ?_; refine c_rowOfN hb10 hab ?_)
    repeat (first | refine VV.add rfl ?_ | refine VV.inc rfl rfl rfl ?_ | refine VV.mul rfl ?_ | refine VV.sub rfl (by omega) ?_ | refine VV.shl1 rfl (by omega) ?_ | refine VV.shl rfl ⟨by omega, by omega⟩ ?_ | refine VV.shr rfl ⟨by omega, by omega⟩ ?_ | refine VV.and rfl ?_ | refine VV.div rfl ⟨by omega, by omega, by omega⟩ ?_ | refine VV.rem rfl ⟨by omega, by omega, by omega⟩ ?_ | refine VV.s rfl ?_  | refine VV.b (b_ltT (by omega) (by omega)) ?_ | refine VV.b (b_ltF (by omega) (by omega)) ?_ | refine VV.b (b_geT (by omega) (by omega)) ?_ | refine VV.b (b_geF (by omega) (by omega)) ?_ | refine VV.b (b_gtT (by omega) (by omega)) ?_ | refine VV.b (b_gtF (by omega) (by omega)) ?_ | refine VV.b (b_leT (by omega) (by omega)) ?_ | refine VV.b (b_leF (by omega) (by omega)) ?_ | refine VV.b (b_eqT (by omega) (by omega)) ?_ | refine VV.b (b_eqF (by omega) (by omega)) ?_ | refine VV.b (b_neT (by omega) (by omega)) ?_ | refine VV.b (b_neF (by omega) (by omega)) ?_)
    (refine VV.c rfl ?_; refine c_columnOfN hb10 hab ?_)
    have e : up B 5 (B 5) = B := up_id B 5
    rw [← e]
    (refine VV.c rfl ?_; refine c_firstMinor (g := 3) rfl hn h4 ha hbn (fun f => ?_))
    repeat refine VV.s rfl ?_
    exact VV.r rfl (q _ _ _ (h.b5 f) (FX.b5 f))
theorem x_looked (i : IV s) : KX (d + 4) M_T_looked [.ref 1] s (oLooked s) := by
  intro S τ A B Q h q
  unfold oLooked at q
  have hn : τ (100 * 3 + 2) = nI s.c.n := h.now.n
  have h4 := i.c.n4
  have hbm := i.c.bm
  have hm : τ (100 * 15 + 2) = nI (s.c.m 5) := h.now.book.h
  have L : ∀ m k, k + m = s.c.m 5 → ∀ x2, Q (some (.int (lkd s.c.n s.c.E (s.c.r 5) m k))) (HH S τ A B) → VV (d + 4) M_T_looked 2 [some (.ref 1), some (.int (nI k)), x2] [] (HH S τ A B) Q := by
    intro m
    induction m with
    | zero =>
      intro k hk x2 q1
      have e : k = s.c.m 5 := by omega
      subst e
      repeat refine VV.s rfl ?_
      (refine VV.c rfl ?_; refine cr_held (o := 15) rfl hm ?_)
      repeat (first | refine VV.add rfl ?_ | refine VV.inc rfl rfl rfl ?_ | refine VV.mul rfl ?_ | refine VV.sub rfl (by omega) ?_ | refine VV.shl1 rfl (by omega) ?_ | refine VV.shl rfl ⟨by omega, by omega⟩ ?_ | refine VV.shr rfl ⟨by omega, by omega⟩ ?_ | refine VV.and rfl ?_ | refine VV.div rfl ⟨by omega, by omega, by omega⟩ ?_ | refine VV.rem rfl ⟨by omega, by omega, by omega⟩ ?_ | refine VV.s rfl ?_  | refine VV.b (b_ltT (by omega) (by omega)) ?_ | refine VV.b (b_ltF (by omega) (by omega)) ?_ | refine VV.b (b_geT (by omega) (by omega)) ?_ | refine VV.b (b_geF (by omega) (by omega)) ?_ | refine VV.b (b_gtT (by omega) (by omega)) ?_ | refine VV.b (b_gtF (by omega) (by omega)) ?_ | refine VV.b (b_leT (by omega) (by omega)) ?_ | refine VV.b (b_leF (by omega) (by omega)) ?_ | refine VV.b (b_eqT (by omega) (by omega)) ?_ | refine VV.b (b_eqF (by omega) (by omega)) ?_ | refine VV.b (b_neT (by omega) (by omega)) ?_ | refine VV.b (b_neF (by omega) (by omega)) ?_)
      exact VV.r rfl q1
    | succ m ih =>
      intro k hk x2 q1
      rw [lkd] at q1
      obtain ⟨a, b, ha, hb, e1⟩ := i.c.bk k (by omega)
      have r0 := h.now.book.r k 0 (by omega) (by omega)
      have r1 := h.now.book.r k 1 (by omega) (by omega)
      repeat refine VV.s rfl ?_
      (refine VV.c rfl ?_; refine cr_held (o := 15) rfl hm ?_)
      repeat (first | refine VV.add rfl ?_ | refine VV.inc rfl rfl rfl ?_ | refine VV.mul rfl ?_ | refine VV.sub rfl (by omega) ?_ | refine VV.shl1 rfl (by omega) ?_ | refine VV.shl rfl ⟨by omega, by omega⟩ ?_ | refine VV.shr rfl ⟨by omega, by omega⟩ ?_ | refine VV.and rfl ?_ | refine VV.div rfl ⟨by omega, by omega, by omega⟩ ?_ | refine VV.rem rfl ⟨by omega, by omega, by omega⟩ ?_ | refine VV.s rfl ?_  | refine VV.b (b_ltT (by omega) (by omega)) ?_ | refine VV.b (b_ltF (by omega) (by omega)) ?_ | refine VV.b (b_geT (by omega) (by omega)) ?_ | refine VV.b (b_geF (by omega) (by omega)) ?_ | refine VV.b (b_gtT (by omega) (by omega)) ?_ | refine VV.b (b_gtF (by omega) (by omega)) ?_ | refine VV.b (b_leT (by omega) (by omega)) ?_ | refine VV.b (b_leF (by omega) (by omega)) ?_ | refine VV.b (b_eqT (by omega) (by omega)) ?_ | refine VV.b (b_eqF (by omega) (by omega)) ?_ | refine VV.b (b_neT (by omega) (by omega)) ?_ | refine VV.b (b_neF (by omega) (by omega)) ?_)
      (refine VV.c rfl ?_; refine cr_cell (o := 15) (w := 0) rfl hm hbm (by omega) (by omega) ?_)
      rw [show A (15 + 1) (3 * k + 0) = nI (10 * a + b) from r0.trans e1]
      rw [e1] at q1
      repeat refine VV.s rfl ?_
      (refine VV.c rfl ?_; refine c_hasSpot (g := 3) rfl hn h4 ?_)
      cases hs : spB s.c.n (nI (10 * a + b)) with
      | false =>
        rw [if_neg (fun z => by rw [hs] at z; cases z.1)] at q1
        repeat (first | refine VV.add rfl ?_ | refine VV.inc rfl rfl rfl ?_ | refine VV.mul rfl ?_ | refine VV.sub rfl (by omega) ?_ | refine VV.shl1 rfl (by omega) ?_ | refine VV.shl rfl ⟨by omega, by omega⟩ ?_ | refine VV.shr rfl ⟨by omega, by omega⟩ ?_ | refine VV.and rfl ?_ | refine VV.div rfl ⟨by omega, by omega, by omega⟩ ?_ | refine VV.rem rfl ⟨by omega, by omega, by omega⟩ ?_ | refine VV.s rfl ?_  | refine VV.b (b_ltT (by omega) (by omega)) ?_ | refine VV.b (b_ltF (by omega) (by omega)) ?_ | refine VV.b (b_geT (by omega) (by omega)) ?_ | refine VV.b (b_geF (by omega) (by omega)) ?_ | refine VV.b (b_gtT (by omega) (by omega)) ?_ | refine VV.b (b_gtF (by omega) (by omega)) ?_ | refine VV.b (b_leT (by omega) (by omega)) ?_ | refine VV.b (b_leF (by omega) (by omega)) ?_ | refine VV.b (b_eqT (by omega) (by omega)) ?_ | refine VV.b (b_eqF (by omega) (by omega)) ?_ | refine VV.b (b_neT (by omega) (by omega)) ?_ | refine VV.b (b_neF (by omega) (by omega)) ?_)
        exact VV.r rfl q1
      | true =>
        show VV _ _ _ _ [.int (nI 1)] _ _
        have hs2 := hs
        rw [spB_nI (by omega)] at hs2
        simp only [Bool.and_eq_true, decide_eq_true_eq] at hs2
        repeat (first | refine VV.add rfl ?_ | refine VV.inc rfl rfl rfl ?_ | refine VV.mul rfl ?_ | refine VV.sub rfl (by omega) ?_ | refine VV.shl1 rfl (by omega) ?_ | refine VV.shl rfl ⟨by omega, by omega⟩ ?_ | refine VV.shr rfl ⟨by omega, by omega⟩ ?_ | refine VV.and rfl ?_ | refine VV.div rfl ⟨by omega, by omega, by omega⟩ ?_ | refine VV.rem rfl ⟨by omega, by omega, by omega⟩ ?_ | refine VV.s rfl ?_  | refine VV.b (b_ltT (by omega) (by omega)) ?_ | refine VV.b (b_ltF (by omega) (by omega)) ?_ | refine VV.b (b_geT (by omega) (by omega)) ?_ | refine VV.b (b_geF (by omega) (by omega)) ?_ | refine VV.b (b_gtT (by omega) (by omega)) ?_ | refine VV.b (b_gtF (by omega) (by omega)) ?_ | refine VV.b (b_leT (by omega) (by omega)) ?_ | refine VV.b (b_leF (by omega) (by omega)) ?_ | refine VV.b (b_eqT (by omega) (by omega)) ?_ | refine VV.b (b_eqF (by omega) (by omega)) ?_ | refine VV.b (b_neT (by omega) (by omega)) ?_ | refine VV.b (b_neF (by omega) (by omega)) ?_)
        (refine VV.c rfl ?_; refine c_atSpot (g := 3) rfl hn h4 (show a < s.c.n by omega) (show b < s.c.n by omega) ?_)
        repeat refine VV.s rfl ?_
        (refine VV.c rfl ?_; refine cr_cell (o := 15) (w := 1) rfl hm hbm (by omega) (by omega) ?_)
        rw [show A (15 + 1) (3 * k + 1) = s.c.r 5 k 1 from r1, show B (3 + 1) (4 * a + b) = s.c.E (4 * a + b) from h.now.E a b (show a < s.c.n by omega) (show b < s.c.n by omega)]
        rw [cel_nI (by omega) (by omega)] at q1
        repeat refine VV.s rfl ?_
        refine VV.ceq (fun c => ?_) (fun c => ?_)
        · rw [if_pos ⟨hs, c⟩] at q1
          have := ih (k + 1) (by omega) (some (.int (nI (10 * a + b)))) q1
          repeat (first | exact this | refine VV.add rfl ?_ | refine VV.inc rfl rfl rfl ?_ | refine VV.mul rfl ?_ | refine VV.sub rfl (by omega) ?_ | refine VV.shl1 rfl (by omega) ?_ | refine VV.shl rfl ⟨by omega, by omega⟩ ?_ | refine VV.shr rfl ⟨by omega, by omega⟩ ?_ | refine VV.and rfl ?_ | refine VV.div rfl ⟨by omega, by omega, by omega⟩ ?_ | refine VV.rem rfl ⟨by omega, by omega, by omega⟩ ?_ | refine VV.s rfl ?_  | refine VV.b (b_ltT (by omega) (by omega)) ?_ | refine VV.b (b_ltF (by omega) (by omega)) ?_ | refine VV.b (b_geT (by omega) (by omega)) ?_ | refine VV.b (b_geF (by omega) (by omega)) ?_ | refine VV.b (b_gtT (by omega) (by omega)) ?_ | refine VV.b (b_gtF (by omega) (by omega)) ?_ | refine VV.b (b_leT (by omega) (by omega)) ?_ | refine VV.b (b_leF (by omega) (by omega)) ?_ | refine VV.b (b_eqT (by omega) (by omega)) ?_ | refine VV.b (b_eqF (by omega) (by omega)) ?_ | refine VV.b (b_neT (by omega) (by omega)) ?_ | refine VV.b (b_neF (by omega) (by omega)) ?_)
        · rw [if_neg (fun z => c z.2)] at q1
          repeat refine VV.s rfl ?_
          exact VV.r rfl q1
  have := L (s.c.m 5) 0 (by omega) none (q τ A B h FX.refl)
  repeat (first | exact this | refine VV.add rfl ?_ | refine VV.inc rfl rfl rfl ?_ | refine VV.mul rfl ?_ | refine VV.sub rfl (by omega) ?_ | refine VV.shl1 rfl (by omega) ?_ | refine VV.shl rfl ⟨by omega, by omega⟩ ?_ | refine VV.shr rfl ⟨by omega, by omega⟩ ?_ | refine VV.and rfl ?_ | refine VV.div rfl ⟨by omega, by omega, by omega⟩ ?_ | refine VV.rem rfl ⟨by omega, by omega, by omega⟩ ?_ | refine VV.s rfl ?_  | refine VV.b (b_ltT (by omega) (by omega)) ?_ | refine VV.b (b_ltF (by omega) (by omega)) ?_ | refine VV.b (b_geT (by omega) (by omega)) ?_ | refine VV.b (b_geF (by omega) (by omega)) ?_ | refine VV.b (b_gtT (by omega) (by omega)) ?_ | refine VV.b (b_gtF (by omega) (by omega)) ?_ | refine VV.b (b_leT (by omega) (by omega)) ?_ | refine VV.b (b_leF (by omega) (by omega)) ?_ | refine VV.b (b_eqT (by omega) (by omega)) ?_ | refine VV.b (b_eqF (by omega) (by omega)) ?_ | refine VV.b (b_neT (by omega) (by omega)) ?_ | refine VV.b (b_neF (by omega) (by omega)) ?_)
theorem x_told (i : IV s) {x : Int32} : KX (d + 7) M_T_told [.ref 1, .int x] s (oTold s x) := by
  intro S τ A B Q h q
  unfold oTold at q
  have hn : τ (100 * 3 + 2) = nI s.c.n := h.now.n
  have h4 := i.c.n4
  have hE : ∀ i j, i < s.c.n → j < s.c.n → B 4 (4 * i + j) = s.c.E (4 * i + j) := fun a b ha hb => h.now.E a b ha hb
  have e : up B 5 (B 5) = B := up_id B 5
  refine CC.of rfl ?_
  refine VV.s rfl ?_
  refine VV.s rfl ?_
  refine VV.sw (fun e0 => ?_) (fun c0 => ?_)
  · rw [if_pos e0] at q
    repeat refine VV.s rfl ?_
    (refine VV.c rfl ?_; refine c_lines (g := 3) rfl hn h4 ?_)
    exact VV.r rfl (q τ A B h FX.refl)
  rw [if_neg c0] at q
  refine VV.sw (fun e0 => ?_) (fun c1 => ?_)
  · rw [if_pos e0] at q
    repeat refine VV.s rfl ?_
    (refine VV.c rfl ?_; refine cr_held (o := 6) rfl h.now.chip.h ?_)
    exact VV.r rfl (q τ A B h FX.refl)
  rw [if_neg c1] at q
  refine VV.sw (fun e0 => ?_) (fun c2 => ?_)
  · rw [if_pos e0] at q
    repeat refine VV.s rfl ?_
    rw [← e]
    (refine VV.c rfl ?_; refine c_isPositive (g := 3) rfl hn h4 (fun f => ?_))
    rw [show amI (B (3 + 1)) s.c.n s.c.n 0 = amI s.c.E s.c.n s.c.n 0 from amI_congr h4 hE s.c.n 0 (by omega)]
    by_cases c : amI s.c.E s.c.n s.c.n 0 = none
    · rw [decide_eq_true c] at q ⊢
      show VV _ _ _ _ [.int (nI 1)] _ _
      repeat (first | refine VV.add rfl ?_ | refine VV.inc rfl rfl rfl ?_ | refine VV.mul rfl ?_ | refine VV.sub rfl (by omega) ?_ | refine VV.shl1 rfl (by omega) ?_ | refine VV.shl rfl ⟨by omega, by omega⟩ ?_ | refine VV.shr rfl ⟨by omega, by omega⟩ ?_ | refine VV.and rfl ?_ | refine VV.div rfl ⟨by omega, by omega, by omega⟩ ?_ | refine VV.rem rfl ⟨by omega, by omega, by omega⟩ ?_ | refine VV.s rfl ?_  | refine VV.b (b_ltT (by omega) (by omega)) ?_ | refine VV.b (b_ltF (by omega) (by omega)) ?_ | refine VV.b (b_geT (by omega) (by omega)) ?_ | refine VV.b (b_geF (by omega) (by omega)) ?_ | refine VV.b (b_gtT (by omega) (by omega)) ?_ | refine VV.b (b_gtF (by omega) (by omega)) ?_ | refine VV.b (b_leT (by omega) (by omega)) ?_ | refine VV.b (b_leF (by omega) (by omega)) ?_ | refine VV.b (b_eqT (by omega) (by omega)) ?_ | refine VV.b (b_eqF (by omega) (by omega)) ?_ | refine VV.b (b_neT (by omega) (by omega)) ?_ | refine VV.b (b_neF (by omega) (by omega)) ?_)
      exact VV.r rfl (q _ _ _ (h.b5 f) (FX.b5 f))
    · rw [decide_eq_false c] at q ⊢
      show VV _ _ _ _ [.int (nI 0)] _ _
      repeat (first | refine VV.add rfl ?_ | refine VV.inc rfl rfl rfl ?_ | refine VV.mul rfl ?_ | refine VV.sub rfl (by omega) ?_ | refine VV.shl1 rfl (by omega) ?_ | refine VV.shl rfl ⟨by omega, by omega⟩ ?_ | refine VV.shr rfl ⟨by omega, by omega⟩ ?_ | refine VV.and rfl ?_ | refine VV.div rfl ⟨by omega, by omega, by omega⟩ ?_ | refine VV.rem rfl ⟨by omega, by omega, by omega⟩ ?_ | refine VV.s rfl ?_  | refine VV.b (b_ltT (by omega) (by omega)) ?_ | refine VV.b (b_ltF (by omega) (by omega)) ?_ | refine VV.b (b_geT (by omega) (by omega)) ?_ | refine VV.b (b_geF (by omega) (by omega)) ?_ | refine VV.b (b_gtT (by omega) (by omega)) ?_ | refine VV.b (b_gtF (by omega) (by omega)) ?_ | refine VV.b (b_leT (by omega) (by omega)) ?_ | refine VV.b (b_leF (by omega) (by omega)) ?_ | refine VV.b (b_eqT (by omega) (by omega)) ?_ | refine VV.b (b_eqF (by omega) (by omega)) ?_ | refine VV.b (b_neT (by omega) (by omega)) ?_ | refine VV.b (b_neF (by omega) (by omega)) ?_)
      exact VV.r rfl (q _ _ _ (h.b5 f) (FX.b5 f))
  rw [if_neg c2] at q
  refine VV.sw (fun e0 => ?_) (fun c3 => ?_)
  · rw [if_pos e0, ← amI_congr h4 hE s.c.n 0 (by omega)] at q
    repeat refine VV.s rfl ?_
    rw [← e]
    (refine VV.c rfl ?_; refine c_amiss (g := 3) rfl hn h4 (fun f => ?_))
    exact VV.r rfl (q _ _ _ (h.b5 f) (FX.b5 f))
  rw [if_neg c3] at q
  refine VV.sw (fun e0 => ?_) (fun c4 => ?_)
  · rw [if_pos e0, ← abT_congr h4 hE] at q
    repeat refine VV.s rfl ?_
    rw [← e]
    (refine VV.c rfl ?_; refine c_above (g := 3) rfl hn h4 (fun f => ?_))
    exact VV.r rfl (q _ _ _ (h.b5 f) (FX.b5 f))
  rw [if_neg c4] at q
  refine VV.sw (fun e0 => ?_) (fun c5 => ?_)
  · rw [if_pos e0] at q
    repeat refine VV.s rfl ?_
    (refine VV.c rfl ?_; refine cr_held (o := 9) rfl h.now.note.h ?_)
    exact VV.r rfl (q τ A B h FX.refl)
  rw [if_neg c5] at q
  refine VV.sw (fun e0 => ?_) (fun c6 => ?_)
  · rw [if_pos e0, ← chL_4 h4 (fun k h1 h2 => i.c.V0 k h1 h2), ← chL_congr (f := B 8) 4 (fun j hj => h.now.V j hj)] at q
    repeat refine VV.s rfl ?_
    (refine VV.c rfl ?_; refine cx_changes (a := 8) rfl rfl ?_)
    exact VV.r rfl (q τ A B h FX.refl)
  rw [if_neg c6] at q
  refine VV.sw (fun e0 => ?_) (fun c7 => VV.sw0 ?_)
  · rw [if_pos e0, ← chL_4 h4 (fun k h1 h2 => tvr_0 h1), ← chL_congr (f := tvr (B 4) (B 8) s.c.n) 4 (fun j hj => tvr_congr h4 hE (fun k hk => h.now.V k hk))] at q
    repeat refine VV.s rfl ?_
    (refine VV.c rfl ?_; refine cx_changes7 hn h4 (fun W hW => ?_))
    exact VV.r rfl (q _ _ _ (h.fn (c := s.c) (FN.ub (by decide) FN.refl) (RS.mk h.now.n h.now.E h.now.V h.now.chip h.now.note h.now.seen h.now.event h.now.book)) (FX.ub (by decide) FX.refl))
  rw [if_neg c7] at q
  repeat refine VV.s rfl ?_
  exact VV.r rfl (q τ A B h FX.refl)
end X5
