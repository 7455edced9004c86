/-! what the two constructors leave -/
def t0 (k : Nat) : Int32 := bif Nat.beq k 302 || (Nat.beq k 1802 || (Nat.beq k 3202 || Nat.beq k 5800)) then nI 3 else bif Nat.beq k 4601 || (Nat.beq k 4801 || (Nat.beq k 5001 || (Nat.beq k 5201 || (Nat.beq k 5401 || Nat.beq k 5601)))) then -(nI 1) else nI 0
def u3 (p : Nat) : Int64 := bif Nat.beq p 0 || (Nat.beq p 5 || Nat.beq p 10) then 1 else 0
def a0 (k p : Nat) : Int32 := bif Nat.beq k 59 && (Nat.beq p 0 || (Nat.beq p 5 || (Nat.beq p 10 || Nat.beq p 15))) then nI 1 else nI 0
def b0 (k p : Nat) : Int64 := bif Nat.beq k 4 || (Nat.beq k 19 || Nat.beq k 33) then u3 p else 0
def r92 : Hp := (HH dead t0 a0 b0).drop 1
def r57 : Hp := r92.take 57
theorem HH_0 (S : Cl) : S :: r92 = HH S t0 a0 b0 := rfl
set_option maxRecDepth 100000 in
theorem run_T : endsN (zrun 3000 20 M_T_init 0 [some (.ref 1), none] [] (dead :: [(6, (List.range (nfs 6)).map (fun k => dfl (fty 6 k)))])) (dead :: r57) = true := by decide +kernel
set_option maxRecDepth 100000 in
theorem run_M : endsN (zrun 3000 20 M_M_init 0 [some (.ref 58)] [] (dead :: (r57 ++ [(7, (List.range (nfs 7)).map (fun k => dfl (fty 7 k)))]))) (dead :: r92) = true := by decide +kernel
def s0 : St := ((fun k => if k = 0 then 3 else 0, fun k => if k = 0 then uni else fun _ => 0, fun _ _ _ => 0), none, (0, fun _ => 0), fun _ => 0, fun _ => 0, fun _ _ => 0)
theorem i3 {i : Nat} (h : i < 3) : i = 0 ∨ i = 1 ∨ i = 2 := by omega
theorem i6 {i : Nat} (h : i < 6) : i = 0 ∨ i = 1 ∨ i = 2 ∨ i = 3 ∨ i = 4 ∨ i = 5 := by omega
theorem rxB : RX s0 t0 a0 b0 := by
  refine RX.mk (RS.mk rfl (fun i j hi hj => ?_) (fun i hi => rfl) ⟨rfl, fun k w hk _ => absurd hk (Nat.not_lt_zero k)⟩ ⟨rfl, fun k w hk _ => absurd hk (Nat.not_lt_zero k)⟩ ⟨rfl, fun k w hk _ => absurd hk (Nat.not_lt_zero k)⟩ ⟨rfl, fun k w hk _ => absurd hk (Nat.not_lt_zero k)⟩ ⟨rfl, fun k w hk _ => absurd hk (Nat.not_lt_zero k)⟩) (fun _ => rfl) (fun c e => by cases e) rfl (fun k hk => absurd hk (Nat.not_lt_zero k)) (fun t ht => ?_) (fun t ht => ?_) (fun t j ht hj => ?_)
  · rcases i3 (show i < 3 from hi) with rfl | rfl | rfl <;> rcases i3 (show j < 3 from hj) with rfl | rfl | rfl <;> decide
  · rcases i6 ht with rfl | rfl | rfl | rfl | rfl | rfl <;> rfl
  · rcases i6 ht with rfl | rfl | rfl | rfl | rfl | rfl <;> rfl
  · rcases i6 ht with rfl | rfl | rfl | rfl | rfl | rfl <;> rfl
theorem rmB : RM s0 t0 a0 b0 := by
  refine RM.mk rfl (fun i j hi hj => ?_) (fun i hi => rfl) rfl (fun k hk => absurd hk (Nat.not_lt_zero k)) rfl (fun k hk => absurd hk (Nat.not_lt_zero k)) rfl (fun k hk => absurd hk (Nat.not_lt_zero k)) rfl (fun k hk => absurd hk (Nat.not_lt_zero k)) rfl (fun k hk => absurd hk (Nat.not_lt_zero k)) rfl (fun k hk => absurd hk (Nat.not_lt_zero k)) (fun t ht => rfl) (fun t ht => rfl) (fun t j ht hj => rfl) (fun _ => rfl) (fun c e => by cases e)
  rcases i3 (show i < 3 from hi) with rfl | rfl | rfl <;> rcases i3 (show j < 3 from hj) with rfl | rfl | rfl <;> decide
theorem ivB : IV s0 := IV.mk (IC.mk (show 2 ≤ 3 by decide) (show 3 ≤ 4 by decide) (fun a b _ _ => bd_uni _) (fun a _ => bd_0 (by decide)) (fun a _ _ => rfl) (Nat.zero_le _) (fun k hk => absurd hk (Nat.not_lt_zero k)) (Nat.zero_le _) (fun k hk => absurd hk (Nat.not_lt_zero k)) (fun k l _ hl => absurd hl (Nat.not_lt_zero l)) (Nat.zero_le _) (fun k hk => absurd hk (Nat.not_lt_zero k)) (Nat.zero_le _) (fun k hk => absurd hk (Nat.not_lt_zero k)) (Nat.zero_le _) (fun k hk => absurd hk (Nat.not_lt_zero k))) (fun c e => by cases e) (Nat.zero_le _) (fun t _ => ⟨Nat.zero_le _, Nat.zero_le _, fun _ => rfl⟩)
theorem cc_T {S : Cl} {Q : Option Value → Hp → Prop} (q : Q none (S :: r57)) : CC 999 M_T_init [.ref 1] (S :: [(6, (List.range (nfs 6)).map (fun k => dfl (fty 6 k)))]) Q := by
  obtain ⟨r', e1, e2⟩ := zrun_dead S _ _ _ _ _ _ _ _ _ (endsN_eq run_T)
  have e1 := (List.cons.inj e1).2
  rw [← e1] at e2
  exact CC.deepN (d := 20) (CC.of rfl ⟨_, _, _, e2, q⟩) (by decide)
theorem cc_M {S : Cl} {Q : Option Value → Hp → Prop} (q : Q none (S :: r92)) : CC 999 M_M_init [.ref 58] (S :: (r57 ++ [(7, (List.range (nfs 7)).map (fun k => dfl (fty 7 k)))])) Q := by
  obtain ⟨r', e1, e2⟩ := zrun_dead S _ _ _ _ _ _ _ _ _ (endsN_eq run_M)
  have e1 := (List.cons.inj e1).2
  rw [← e1] at e2
  exact CC.deepN (d := 20) (CC.of rfl ⟨_, _, _, e2, q⟩) (by decide)
theorem law_begin {S : Cl} {Q : Option Value → Hp → Prop} (g : VV 1000 213 18 [some (.ref 0), some (.ref 1), some (.ref 58), some (.int (nI 0))] [] (HH S t0 a0 b0) Q) : VV 1000 213 0 [some (.ref 0), none, none, none] [] [S] Q := by
  refine VV.s rfl ?_
  refine VV.s rfl ?_
  refine VV.c rfl (cc_T (S := S) ?_)
  refine VV.s rfl ?_
  refine VV.s rfl ?_
  refine VV.s rfl ?_
  refine VV.c rfl (cc_M (S := S) ?_)
  refine VV.s rfl ?_
  refine VV.s rfl ?_
  refine VV.s rfl ?_
  exact g
