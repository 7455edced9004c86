/-! the class's calls: factors, the image -/
def edg (E : Nat → Int64) (a o : Nat) (t : Bool) : Int64 := if t = true then mnr E (2 ^ o - 1) ((2 ^ o - 1) * 2 ^ a) else mnr E ((2 ^ o - 1) * 2 ^ a) (2 ^ o - 1)
def facT (E : Nat → Int64) (i j : Nat) (p : Int32) : Int64 := if i = j then lowT (edg E 0 (i + 1) false) (edg E 0 i false) p else lowT (edg E (max i j - min i j) (min i j + 1) (decide (i < j)) * edg E (max i j - min i j - 1) (min i j) (decide (i < j))) (edg E (max i j - min i j) (min i j) (decide (i < j)) * edg E (max i j - min i j - 1) (min i j + 1) (decide (i < j))) p
def oFactor (s : St) (x p : Int32) : Int64 × St := (if spB s.c.n x = true ∧ o01 p = true ∧ amI s.c.E s.c.n s.c.n 0 = none then facT s.c.E (x.toNatClampNeg / 10) (x.toNatClampNeg % 10) p else noJ, s)
theorem fin_edg : (List.range 5).all (fun n => (List.range 5).all (fun a => (List.range 5).all (fun o => decide (a + o ≤ n → (2 ^ o - 1) * 2 ^ a < 2 ^ n ∧ 2 ^ o - 1 < 2 ^ n ∧ 2 ^ o - 1 < 16 ∧ pop4 ((2 ^ o - 1) * 2 ^ a) = o ∧ pop4 (2 ^ o - 1) = o ∧ (1 ≤ o → 1 ≤ (2 ^ o - 1) * 2 ^ a ∧ 1 ≤ 2 ^ o - 1))))) = true := by decide +kernel
theorem t_edg (n : Nat) (hn : n < 5) (a : Nat) (ha : a < 5) (o : Nat) (ho : o < 5) (h : a + o ≤ n) : (2 ^ o - 1) * 2 ^ a < 2 ^ n ∧ 2 ^ o - 1 < 2 ^ n ∧ 2 ^ o - 1 < 16 ∧ pop4 ((2 ^ o - 1) * 2 ^ a) = o ∧ pop4 (2 ^ o - 1) = o ∧ (1 ≤ o → 1 ≤ (2 ^ o - 1) * 2 ^ a ∧ 1 ≤ 2 ^ o - 1) := of_decide_eq_true (List.all_eq_true.mp (List.all_eq_true.mp (List.all_eq_true.mp fin_edg n (List.mem_range.mpr hn)) a (List.mem_range.mpr ha)) o (List.mem_range.mpr ho)) h
theorem edg_congr {E E' : Nat → Int64} {n a o : Nat} {t : Bool} (h4 : n ≤ 4) (h : ∀ i j, i < n → j < n → E (4 * i + j) = E' (4 * i + j)) (hao : a + o ≤ n) : edg E a o t = edg E' a o t := by
  obtain ⟨h1, h2, _⟩ := t_edg n (by omega) a (by omega) o (by omega) hao
  unfold edg
  rw [mnr_congr h4 h1 h2 h, mnr_congr h4 h2 h1 h]
theorem edg_b {E : Nat → Int64} {n a o : Nat} {t : Bool} (h4 : n ≤ 4) (h : ∀ i j, i < n → j < n → bd (E (4 * i + j)) 99) (hao : a + o ≤ n) : (edg E a o t).toInt.natAbs ≤ 396 ^ o := by
  obtain ⟨h1, h2, _, p1, p2, _⟩ := t_edg n (by omega) a (by omega) o (by omega) hao
  have z1 := mnr_Z h4 h1 h2 h
  have z2 := mnr_Z h4 h2 h1 h
  rw [p1] at z1
  rw [p2] at z2
  unfold edg
  by_cases c : t = true
  · rw [if_pos c, z2.1]; exact z2.2
  · rw [if_neg c, z1.1]; exact z1.2
theorem edg_pos {E : Nat → Int64} {n a o : Nat} {t : Bool} (h4 : n ≤ 4) (h : allPos E n) (hao : a + o ≤ n) : 0 < edg E a o t := by
  obtain ⟨h1, h2, _, p1, p2, h5⟩ := t_edg n (by omega) a (by omega) o (by omega) hao
  by_cases c0 : o = 0
  · subst c0
    have e : edg E a 0 t = 1 := by
      unfold edg
      rw [show 2 ^ 0 - 1 = 0 from rfl, Nat.zero_mul, ite_self]
      rfl
    rw [e]
    decide
  · have h6 := h5 (by omega)
    unfold edg
    by_cases c : t = true
    · rw [if_pos c]; exact h _ _ h6.2 h2 h6.1 h1 (p2.trans p1.symm)
    · rw [if_neg c]; exact h _ _ h6.1 h1 h6.2 h2 (p1.trans p2.symm)
theorem pos_ne {x : Int64} (h : 0 < x) : x.toInt.natAbs ≠ 0 := by
  rw [Int64.lt_iff_toInt_lt, show (0 : Int64).toInt = 0 from rfl] at h
  omega
theorem p396b : ∀ k, k < 3 → 396 ^ (k + 1) * 396 ^ k < 2 ^ 48 := by decide
theorem mul_b {x y : Int64} {k : Nat} (hk : k < 3) (hx : x.toInt.natAbs ≤ 396 ^ (k + 1)) (hy : y.toInt.natAbs ≤ 396 ^ k) : (x * y).toInt.natAbs = x.toInt.natAbs * y.toInt.natAbs ∧ (x * y).toInt.natAbs < 2 ^ 48 := by
  have h1 := Nat.mul_le_mul hx hy
  have h2 := p396b k hk
  rw [i64_mul (by omega), Int.natAbs_mul]
  exact ⟨rfl, by omega⟩
theorem mul_b2 {x y : Int64} {k : Nat} (hk : k < 3) (hx : x.toInt.natAbs ≤ 396 ^ k) (hy : y.toInt.natAbs ≤ 396 ^ (k + 1)) : (x * y).toInt.natAbs = x.toInt.natAbs * y.toInt.natAbs ∧ (x * y).toInt.natAbs < 2 ^ 48 := by
  have h1 := Nat.mul_le_mul hx hy
  rw [Nat.mul_comm (396 ^ k)] at h1
  have h2 := p396b k hk
  rw [i64_mul (by omega), Int.natAbs_mul]
  exact ⟨rfl, by omega⟩
theorem fac_b {E : Nat → Int64} {n i j : Nat} (h4 : n ≤ 4) (h : ∀ i j, i < n → j < n → bd (E (4 * i + j)) 99) (hp : allPos E n) (hi : i < n) (hj : j < i) (t : Bool) : (edg E (i - j) (j + 1) t * edg E (i - j - 1) j t).toInt.natAbs < 2 ^ 63 ∧ (edg E (i - j) j t * edg E (i - j - 1) (j + 1) t).toInt.natAbs < 2 ^ 48 ∧ (edg E (i - j) j t * edg E (i - j - 1) (j + 1) t).toInt.natAbs ≠ 0 := by
  have a1 := mul_b (k := j) (by omega) (edg_b (t := t) h4 h (show i - j + (j + 1) ≤ n by omega)) (edg_b (t := t) h4 h (show i - j - 1 + j ≤ n by omega))
  have a2 := mul_b2 (k := j) (by omega) (edg_b (t := t) h4 h (show i - j + j ≤ n by omega)) (edg_b (t := t) h4 h (show i - j - 1 + (j + 1) ≤ n by omega))
  have a3 := pos_ne (edg_pos (t := t) h4 hp (show i - j + j ≤ n by omega))
  have a4 := pos_ne (edg_pos (t := t) h4 hp (show i - j - 1 + (j + 1) ≤ n by omega))
  refine ⟨by omega, a2.2, ?_⟩
  rw [a2.1]
  exact Nat.mul_ne_zero a3 a4
theorem fac_d {E : Nat → Int64} {n i : Nat} (h4 : n ≤ 4) (h : ∀ i j, i < n → j < n → bd (E (4 * i + j)) 99) (hp : allPos E n) (hi : i < n) : (edg E 0 (i + 1) false).toInt.natAbs < 2 ^ 63 ∧ (edg E 0 i false).toInt.natAbs < 2 ^ 48 ∧ (edg E 0 i false).toInt.natAbs ≠ 0 := by
  have a1 := edg_b (t := false) h4 h (show 0 + (i + 1) ≤ n by omega)
  have a2 := edg_b (t := false) h4 h (show 0 + i ≤ n by omega)
  have a3 := pos_ne (edg_pos (t := false) h4 hp (show 0 + i ≤ n by omega))
  have e : ∀ k, k < 5 → 396 ^ k < 2 ^ 48 := by decide
  have e1 := e (i + 1) (by omega)
  have e2 := e i (by omega)
  exact ⟨by omega, by omega, a3⟩
section XE
variable {S : Cl} {τ : Nat → Int32} {A : Nat → Nat → Int32} {B : Nat → Nat → Int64}
variable {d n : Nat} {Q : Option Value → Hp → Prop}
theorem cx_edge (hn : τ (100 * 3 + 2) = nI n) (h4 : n ≤ 4) {a o : Nat} (hao : a + o ≤ n) {t : Bool} {f0 : Nat → Int64} (q : ∀ f, Q (some (.long (edg (B 4) a o t))) (HH S τ A (up B 5 f))) : CC (d + 3) M_T_edgeMinor [.ref 1, .int (nI a), .int (nI o), .int (bI t)] (HH S τ A (up B 5 f0)) Q := by
  obtain ⟨h1, h2, h16, p1, p2, _⟩ := t_edg n (by omega) a (by omega) o (by omega) hao
  have hpo := Nat.two_pow_pos o
  unfold edg at q
  refine CC.of rfl ?_
  cases t with
  | true =>
    repeat (first | refine VV.add rfl ?_ | refine VV.inc rfl rfl rfl ?_ | refine VV.mul rfl ?_ | refine VV.sub rfl (by omega) ?_ | refine VV.shl1 rfl (by omega) ?_ | refine VV.shl rfl ⟨by omega, by omega⟩ ?_ | refine VV.shr rfl ⟨by omega, by omega⟩ ?_ | refine VV.and rfl ?_ | refine VV.div rfl ⟨by omega, by omega, by omega⟩ ?_ | refine VV.rem rfl ⟨by omega, by omega, by omega⟩ ?_ | refine VV.s rfl ?_  | refine VV.b (b_ltT (by omega) (by omega)) ?_ | refine VV.b (b_ltF (by omega) (by omega)) ?_ | refine VV.b (b_geT (by omega) (by omega)) ?_ | refine VV.b (b_geF (by omega) (by omega)) ?_ | refine VV.b (b_gtT (by omega) (by omega)) ?_ | refine VV.b (b_gtF (by omega) (by omega)) ?_ | refine VV.b (b_leT (by omega) (by omega)) ?_ | refine VV.b (b_leF (by omega) (by omega)) ?_ | refine VV.b (b_eqT (by omega) (by omega)) ?_ | refine VV.b (b_eqF (by omega) (by omega)) ?_ | refine VV.b (b_neT (by omega) (by omega)) ?_ | refine VV.b (b_neF (by omega) (by omega)) ?_)
    (refine VV.c rfl ?_; refine c_detP (g := 3) rfl hn h4 h2 h1 (p2.trans p1.symm) (fun f => ?_))
    repeat (first | refine VV.add rfl ?_ | refine VV.inc rfl rfl rfl ?_ | refine VV.mul rfl ?_ | refine VV.sub rfl (by omega) ?_ | refine VV.shl1 rfl (by omega) ?_ | refine VV.shl rfl ⟨by omega, by omega⟩ ?_ | refine VV.shr rfl ⟨by omega, by omega⟩ ?_ | refine VV.and rfl ?_ | refine VV.div rfl ⟨by omega, by omega, by omega⟩ ?_ | refine VV.rem rfl ⟨by omega, by omega, by omega⟩ ?_ | refine VV.s rfl ?_  | refine VV.b (b_ltT (by omega) (by omega)) ?_ | refine VV.b (b_ltF (by omega) (by omega)) ?_ | refine VV.b (b_geT (by omega) (by omega)) ?_ | refine VV.b (b_geF (by omega) (by omega)) ?_ | refine VV.b (b_gtT (by omega) (by omega)) ?_ | refine VV.b (b_gtF (by omega) (by omega)) ?_ | refine VV.b (b_leT (by omega) (by omega)) ?_ | refine VV.b (b_leF (by omega) (by omega)) ?_ | refine VV.b (b_eqT (by omega) (by omega)) ?_ | refine VV.b (b_eqF (by omega) (by omega)) ?_ | refine VV.b (b_neT (by omega) (by omega)) ?_ | refine VV.b (b_neF (by omega) (by omega)) ?_)
    exact VV.r rfl (q f)
  | false =>
    repeat (first | refine VV.add rfl ?_ | refine VV.inc rfl rfl rfl ?_ | refine VV.mul rfl ?_ | refine VV.sub rfl (by omega) ?_ | refine VV.shl1 rfl (by omega) ?_ | refine VV.shl rfl ⟨by omega, by omega⟩ ?_ | refine VV.shr rfl ⟨by omega, by omega⟩ ?_ | refine VV.and rfl ?_ | refine VV.div rfl ⟨by omega, by omega, by omega⟩ ?_ | refine VV.rem rfl ⟨by omega, by omega, by omega⟩ ?_ | refine VV.s rfl ?_  | refine VV.b (b_ltT (by omega) (by omega)) ?_ | refine VV.b (b_ltF (by omega) (by omega)) ?_ | refine VV.b (b_geT (by omega) (by omega)) ?_ | refine VV.b (b_geF (by omega) (by omega)) ?_ | refine VV.b (b_gtT (by omega) (by omega)) ?_ | refine VV.b (b_gtF (by omega) (by omega)) ?_ | refine VV.b (b_leT (by omega) (by omega)) ?_ | refine VV.b (b_leF (by omega) (by omega)) ?_ | refine VV.b (b_eqT (by omega) (by omega)) ?_ | refine VV.b (b_eqF (by omega) (by omega)) ?_ | refine VV.b (b_neT (by omega) (by omega)) ?_ | refine VV.b (b_neF (by omega) (by omega)) ?_)
    (refine VV.c rfl ?_; refine c_detP (g := 3) rfl hn h4 h1 h2 (p1.trans p2.symm) (fun f => ?_))
    repeat (first | refine VV.add rfl ?_ | refine VV.inc rfl rfl rfl ?_ | refine VV.mul rfl ?_ | refine VV.sub rfl (by omega) ?_ | refine VV.shl1 rfl (by omega) ?_ | refine VV.shl rfl ⟨by omega, by omega⟩ ?_ | refine VV.shr rfl ⟨by omega, by omega⟩ ?_ | refine VV.and rfl ?_ | refine VV.div rfl ⟨by omega, by omega, by omega⟩ ?_ | refine VV.rem rfl ⟨by omega, by omega, by omega⟩ ?_ | refine VV.s rfl ?_  | refine VV.b (b_ltT (by omega) (by omega)) ?_ | refine VV.b (b_ltF (by omega) (by omega)) ?_ | refine VV.b (b_geT (by omega) (by omega)) ?_ | refine VV.b (b_geF (by omega) (by omega)) ?_ | refine VV.b (b_gtT (by omega) (by omega)) ?_ | refine VV.b (b_gtF (by omega) (by omega)) ?_ | refine VV.b (b_leT (by omega) (by omega)) ?_ | refine VV.b (b_leF (by omega) (by omega)) ?_ | refine VV.b (b_eqT (by omega) (by omega)) ?_ | refine VV.b (b_eqF (by omega) (by omega)) ?_ | refine VV.b (b_neT (by omega) (by omega)) ?_ | refine VV.b (b_neF (by omega) (by omega)) ?_)
    exact VV.r rfl (q f)
end XE
theorem cn_copy2 {S : Cl} {τ : Nat → Int32} {A : Nat → Nat → Int32} {B : Nat → Nat → Int64} {d : Nat} {Q : Option Value → Hp → Prop} {c : Co} (i : IC c) (h : RS 15 c τ A B) (q : ∀ E V a1 a2 a3 a4 a5, RS 0 c (up (up (up (up (up (up τ 302 (nI c.n)) 602 (nI (c.m 1))) 902 (nI (c.m 2))) 1102 (nI (c.m 3))) 1302 (nI (c.m 4))) 1502 (nI (c.m 5))) (up (up (up (up (up A 7 a1) 10 a2) 12 a3) 14 a4) 16 a5) (up (up B 4 E) 8 V) → Q none (HH S (up (up (up (up (up (up τ 302 (nI c.n)) 602 (nI (c.m 1))) 902 (nI (c.m 2))) 1102 (nI (c.m 3))) 1302 (nI (c.m 4))) 1502 (nI (c.m 5))) (up (up (up (up (up A 7 a1) 10 a2) 12 a3) 14 a4) 16 a5) (up (up B 4 E) 8 V))) : CC (d + 3) M_Scene_copyFrom [.ref 2, .ref 17] (HH S τ A B) Q := by
  have h4 := i.n4
  refine CC.of rfl ?_
  repeat refine VV.s rfl ?_
  (refine VV.c rfl ?_; refine c_copyFrom (g := 3) (o := 18) rfl rfl (by decide) h.n h4 (fun E hE => ?_))
  repeat refine VV.s rfl ?_
  (refine VV.c rfl ?_; refine cr_copyFrom (o := 6) (p := 21) rfl rfl (by decide) (show up τ 302 (nI c.n) 2102 = nI (c.m 1) from h.chip.h) i.cm i.cm (fun a1 h1 => ?_))
  have W := VV.inv (fun k (V : Nat → Int64) => ∀ j, j < k → V j = B 23 j) (fun k V => VV (d + 3) M_Scene_copyFrom 24 [some (.ref 2), some (.ref 17), some (.int (nI k))] [] (HH S (up (up τ 302 (nI c.n)) 602 (nI (c.m 1))) (up A 7 a1) (up (up B 4 E) 8 V)) Q) 4 ?_ ?_ 4 0 (B 8) (by omega) (fun j hj => by omega)
  · rw [show up (up B 4 E) 8 (B 8) = up B 4 E from (by rw [show B 8 = up B 4 E 8 from rfl, up_id])] at W
    repeat (first | exact W | refine VV.add rfl ?_ | refine VV.inc rfl rfl rfl ?_ | refine VV.mul rfl ?_ | refine VV.sub rfl (by omega) ?_ | refine VV.shl1 rfl (by omega) ?_ | refine VV.shl rfl ⟨by omega, by omega⟩ ?_ | refine VV.shr rfl ⟨by omega, by omega⟩ ?_ | refine VV.and rfl ?_ | refine VV.div rfl ⟨by omega, by omega, by omega⟩ ?_ | refine VV.rem rfl ⟨by omega, by omega, by omega⟩ ?_ | refine VV.s rfl ?_  | refine VV.b (b_ltT (by omega) (by omega)) ?_ | refine VV.b (b_ltF (by omega) (by omega)) ?_ | refine VV.b (b_geT (by omega) (by omega)) ?_ | refine VV.b (b_geF (by omega) (by omega)) ?_ | refine VV.b (b_gtT (by omega) (by omega)) ?_ | refine VV.b (b_gtF (by omega) (by omega)) ?_ | refine VV.b (b_leT (by omega) (by omega)) ?_ | refine VV.b (b_leF (by omega) (by omega)) ?_ | refine VV.b (b_eqT (by omega) (by omega)) ?_ | refine VV.b (b_eqF (by omega) (by omega)) ?_ | refine VV.b (b_neT (by omega) (by omega)) ?_ | refine VV.b (b_neF (by omega) (by omega)) ?_)
  · intro k V hk hI nxt
    have := nxt (up V k (B 23 k)) (fun j hj => by
      by_cases e : j = k
      · rw [e, up_s]
      · rw [up_n e]; exact hI j (by omega))
    repeat (first | refine VV.jln (a := 8) (n := 4) rfl rfl rfl ?_ | refine VV.jln (a := 23) (n := 4) rfl rfl rfl ?_ | refine VV.add rfl ?_ | refine VV.inc rfl rfl rfl ?_ | refine VV.mul rfl ?_ | refine VV.sub rfl (by omega) ?_ | refine VV.shl1 rfl (by omega) ?_ | refine VV.shl rfl ⟨by omega, by omega⟩ ?_ | refine VV.shr rfl ⟨by omega, by omega⟩ ?_ | refine VV.and rfl ?_ | refine VV.div rfl ⟨by omega, by omega, by omega⟩ ?_ | refine VV.rem rfl ⟨by omega, by omega, by omega⟩ ?_ | refine VV.s rfl ?_  | refine VV.b (b_ltT (by omega) (by omega)) ?_ | refine VV.b (b_ltF (by omega) (by omega)) ?_ | refine VV.b (b_geT (by omega) (by omega)) ?_ | refine VV.b (b_geF (by omega) (by omega)) ?_ | refine VV.b (b_gtT (by omega) (by omega)) ?_ | refine VV.b (b_gtF (by omega) (by omega)) ?_ | refine VV.b (b_leT (by omega) (by omega)) ?_ | refine VV.b (b_leF (by omega) (by omega)) ?_ | refine VV.b (b_eqT (by omega) (by omega)) ?_ | refine VV.b (b_eqF (by omega) (by omega)) ?_ | refine VV.b (b_neT (by omega) (by omega)) ?_ | refine VV.b (b_neF (by omega) (by omega)) ?_)
    refine VV.ja rfl rfl rfl (show k < 4 from hk) ?_
    repeat refine VV.s rfl ?_
    refine VV.js rfl rfl rfl (show k < 4 from hk) ?_
    rw [up_up, up_s]
    repeat (first | exact this | refine VV.add rfl ?_ | refine VV.inc rfl rfl rfl ?_ | refine VV.mul rfl ?_ | refine VV.sub rfl (by omega) ?_ | refine VV.shl1 rfl (by omega) ?_ | refine VV.shl rfl ⟨by omega, by omega⟩ ?_ | refine VV.shr rfl ⟨by omega, by omega⟩ ?_ | refine VV.and rfl ?_ | refine VV.div rfl ⟨by omega, by omega, by omega⟩ ?_ | refine VV.rem rfl ⟨by omega, by omega, by omega⟩ ?_ | refine VV.s rfl ?_  | refine VV.b (b_ltT (by omega) (by omega)) ?_ | refine VV.b (b_ltF (by omega) (by omega)) ?_ | refine VV.b (b_geT (by omega) (by omega)) ?_ | refine VV.b (b_geF (by omega) (by omega)) ?_ | refine VV.b (b_gtT (by omega) (by omega)) ?_ | refine VV.b (b_gtF (by omega) (by omega)) ?_ | refine VV.b (b_leT (by omega) (by omega)) ?_ | refine VV.b (b_leF (by omega) (by omega)) ?_ | refine VV.b (b_eqT (by omega) (by omega)) ?_ | refine VV.b (b_eqF (by omega) (by omega)) ?_ | refine VV.b (b_neT (by omega) (by omega)) ?_ | refine VV.b (b_neF (by omega) (by omega)) ?_)
  · intro V hV
    repeat (first | refine VV.jln (a := 8) (n := 4) rfl rfl rfl ?_ | refine VV.add rfl ?_ | refine VV.inc rfl rfl rfl ?_ | refine VV.mul rfl ?_ | refine VV.sub rfl (by omega) ?_ | refine VV.shl1 rfl (by omega) ?_ | refine VV.shl rfl ⟨by omega, by omega⟩ ?_ | refine VV.shr rfl ⟨by omega, by omega⟩ ?_ | refine VV.and rfl ?_ | refine VV.div rfl ⟨by omega, by omega, by omega⟩ ?_ | refine VV.rem rfl ⟨by omega, by omega, by omega⟩ ?_ | refine VV.s rfl ?_  | refine VV.b (b_ltT (by omega) (by omega)) ?_ | refine VV.b (b_ltF (by omega) (by omega)) ?_ | refine VV.b (b_geT (by omega) (by omega)) ?_ | refine VV.b (b_geF (by omega) (by omega)) ?_ | refine VV.b (b_gtT (by omega) (by omega)) ?_ | refine VV.b (b_gtF (by omega) (by omega)) ?_ | refine VV.b (b_leT (by omega) (by omega)) ?_ | refine VV.b (b_leF (by omega) (by omega)) ?_ | refine VV.b (b_eqT (by omega) (by omega)) ?_ | refine VV.b (b_eqF (by omega) (by omega)) ?_ | refine VV.b (b_neT (by omega) (by omega)) ?_ | refine VV.b (b_neF (by omega) (by omega)) ?_)
    (refine VV.c rfl ?_; refine cr_copyFrom (o := 9) (p := 24) rfl rfl (by decide) (show up (up τ 302 (nI c.n)) 602 (nI (c.m 1)) 2402 = nI (c.m 2) from h.note.h) i.nm i.nm (fun a2 h2 => ?_))
    repeat refine VV.s rfl ?_
    (refine VV.c rfl ?_; refine cr_copyFrom (o := 11) (p := 26) rfl rfl (by decide) (show up (up (up τ 302 (nI c.n)) 602 (nI (c.m 1))) 902 (nI (c.m 2)) 2602 = nI (c.m 3) from h.seen.h) i.sm i.sm (fun a3 h3 => ?_))
    repeat refine VV.s rfl ?_
    (refine VV.c rfl ?_; refine cr_copyFrom (o := 13) (p := 28) rfl rfl (by decide) (show up (up (up (up τ 302 (nI c.n)) 602 (nI (c.m 1))) 902 (nI (c.m 2))) 1102 (nI (c.m 3)) 2802 = nI (c.m 4) from h.event.h) i.em i.em (fun a4 h4 => ?_))
    repeat refine VV.s rfl ?_
    (refine VV.c rfl ?_; refine cr_copyFrom (o := 15) (p := 30) rfl rfl (by decide) (show up (up (up (up (up τ 302 (nI c.n)) 602 (nI (c.m 1))) 902 (nI (c.m 2))) 1102 (nI (c.m 3))) 1302 (nI (c.m 4)) 3002 = nI (c.m 5) from h.book.h) i.bm i.bm (fun a5 h5 => ?_))
    repeat refine VV.s rfl ?_
    refine VV.r rfl (q E V a1 a2 a3 a4 a5 (RS.mk rfl (fun a b ha hb => ?_) (fun j hj => ?_) ⟨rfl, fun k w hk hw => ?_⟩ ⟨rfl, fun k w hk hw => ?_⟩ ⟨rfl, fun k w hk hw => ?_⟩ ⟨rfl, fun k w hk hw => ?_⟩ ⟨rfl, fun k w hk hw => ?_⟩))
    · exact (hE a b ha hb).trans (h.E a b ha hb)
    · exact (hV j hj).trans (h.V j hj)
    · exact (h1 k w hk hw).trans (h.chip.r k w hk hw)
    · exact (h2 k w hk hw).trans (h.note.r k w hk hw)
    · exact (h3 k w hk hw).trans (h.seen.r k w hk hw)
    · exact (h4 k w hk hw).trans (h.event.r k w hk hw)
    · exact (h5 k w hk hw).trans (h.book.r k w hk hw)
theorem cn_copy17 {S : Cl} {τ : Nat → Int32} {A : Nat → Nat → Int32} {B : Nat → Nat → Int64} {d : Nat} {Q : Option Value → Hp → Prop} {c : Co} (i : IC c) (h : RS 0 c τ A B) (q : ∀ E V a1 a2 a3 a4 a5, RS 15 c (up (up (up (up (up (up τ 1802 (nI c.n)) 2102 (nI (c.m 1))) 2402 (nI (c.m 2))) 2602 (nI (c.m 3))) 2802 (nI (c.m 4))) 3002 (nI (c.m 5))) (up (up (up (up (up A 22 a1) 25 a2) 27 a3) 29 a4) 31 a5) (up (up B 19 E) 23 V) → Q none (HH S (up (up (up (up (up (up τ 1802 (nI c.n)) 2102 (nI (c.m 1))) 2402 (nI (c.m 2))) 2602 (nI (c.m 3))) 2802 (nI (c.m 4))) 3002 (nI (c.m 5))) (up (up (up (up (up A 22 a1) 25 a2) 27 a3) 29 a4) 31 a5) (up (up B 19 E) 23 V))) : CC (d + 3) M_Scene_copyFrom [.ref 17, .ref 2] (HH S τ A B) Q := by
  have h4 := i.n4
  refine CC.of rfl ?_
  repeat refine VV.s rfl ?_
  (refine VV.c rfl ?_; refine c_copyFrom (g := 18) (o := 3) rfl rfl (by decide) h.n h4 (fun E hE => ?_))
  repeat refine VV.s rfl ?_
  (refine VV.c rfl ?_; refine cr_copyFrom (o := 21) (p := 6) rfl rfl (by decide) (show up τ 1802 (nI c.n) 602 = nI (c.m 1) from h.chip.h) i.cm i.cm (fun a1 h1 => ?_))
  have W := VV.inv (fun k (V : Nat → Int64) => ∀ j, j < k → V j = B 8 j) (fun k V => VV (d + 3) M_Scene_copyFrom 24 [some (.ref 17), some (.ref 2), some (.int (nI k))] [] (HH S (up (up τ 1802 (nI c.n)) 2102 (nI (c.m 1))) (up A 22 a1) (up (up B 19 E) 23 V)) Q) 4 ?_ ?_ 4 0 (B 23) (by omega) (fun j hj => by omega)
  · rw [show up (up B 19 E) 23 (B 23) = up B 19 E from (by rw [show B 23 = up B 19 E 23 from rfl, up_id])] at W
    repeat (first | exact W | refine VV.add rfl ?_ | refine VV.inc rfl rfl rfl ?_ | refine VV.mul rfl ?_ | refine VV.sub rfl (by omega) ?_ | refine VV.shl1 rfl (by omega) ?_ | refine VV.shl rfl ⟨by omega, by omega⟩ ?_ | refine VV.shr rfl ⟨by omega, by omega⟩ ?_ | refine VV.and rfl ?_ | refine VV.div rfl ⟨by omega, by omega, by omega⟩ ?_ | refine VV.rem rfl ⟨by omega, by omega, by omega⟩ ?_ | refine VV.s rfl ?_  | refine VV.b (b_ltT (by omega) (by omega)) ?_ | refine VV.b (b_ltF (by omega) (by omega)) ?_ | refine VV.b (b_geT (by omega) (by omega)) ?_ | refine VV.b (b_geF (by omega) (by omega)) ?_ | refine VV.b (b_gtT (by omega) (by omega)) ?_ | refine VV.b (b_gtF (by omega) (by omega)) ?_ | refine VV.b (b_leT (by omega) (by omega)) ?_ | refine VV.b (b_leF (by omega) (by omega)) ?_ | refine VV.b (b_eqT (by omega) (by omega)) ?_ | refine VV.b (b_eqF (by omega) (by omega)) ?_ | refine VV.b (b_neT (by omega) (by omega)) ?_ | refine VV.b (b_neF (by omega) (by omega)) ?_)
  · intro k V hk hI nxt
    have := nxt (up V k (B 8 k)) (fun j hj => by
      by_cases e : j = k
      · rw [e, up_s]
      · rw [up_n e]; exact hI j (by omega))
    repeat (first | refine VV.jln (a := 23) (n := 4) rfl rfl rfl ?_ | refine VV.jln (a := 8) (n := 4) rfl rfl rfl ?_ | refine VV.add rfl ?_ | refine VV.inc rfl rfl rfl ?_ | refine VV.mul rfl ?_ | refine VV.sub rfl (by omega) ?_ | refine VV.shl1 rfl (by omega) ?_ | refine VV.shl rfl ⟨by omega, by omega⟩ ?_ | refine VV.shr rfl ⟨by omega, by omega⟩ ?_ | refine VV.and rfl ?_ | refine VV.div rfl ⟨by omega, by omega, by omega⟩ ?_ | refine VV.rem rfl ⟨by omega, by omega, by omega⟩ ?_ | refine VV.s rfl ?_  | refine VV.b (b_ltT (by omega) (by omega)) ?_ | refine VV.b (b_ltF (by omega) (by omega)) ?_ | refine VV.b (b_geT (by omega) (by omega)) ?_ | refine VV.b (b_geF (by omega) (by omega)) ?_ | refine VV.b (b_gtT (by omega) (by omega)) ?_ | refine VV.b (b_gtF (by omega) (by omega)) ?_ | refine VV.b (b_leT (by omega) (by omega)) ?_ | refine VV.b (b_leF (by omega) (by omega)) ?_ | refine VV.b (b_eqT (by omega) (by omega)) ?_ | refine VV.b (b_eqF (by omega) (by omega)) ?_ | refine VV.b (b_neT (by omega) (by omega)) ?_ | refine VV.b (b_neF (by omega) (by omega)) ?_)
    refine VV.ja rfl rfl rfl (show k < 4 from hk) ?_
    repeat refine VV.s rfl ?_
    refine VV.js rfl rfl rfl (show k < 4 from hk) ?_
    rw [up_up, up_s]
    repeat (first | exact this | refine VV.add rfl ?_ | refine VV.inc rfl rfl rfl ?_ | refine VV.mul rfl ?_ | refine VV.sub rfl (by omega) ?_ | refine VV.shl1 rfl (by omega) ?_ | refine VV.shl rfl ⟨by omega, by omega⟩ ?_ | refine VV.shr rfl ⟨by omega, by omega⟩ ?_ | refine VV.and rfl ?_ | refine VV.div rfl ⟨by omega, by omega, by omega⟩ ?_ | refine VV.rem rfl ⟨by omega, by omega, by omega⟩ ?_ | refine VV.s rfl ?_  | refine VV.b (b_ltT (by omega) (by omega)) ?_ | refine VV.b (b_ltF (by omega) (by omega)) ?_ | refine VV.b (b_geT (by omega) (by omega)) ?_ | refine VV.b (b_geF (by omega) (by omega)) ?_ | refine VV.b (b_gtT (by omega) (by omega)) ?_ | refine VV.b (b_gtF (by omega) (by omega)) ?_ | refine VV.b (b_leT (by omega) (by omega)) ?_ | refine VV.b (b_leF (by omega) (by omega)) ?_ | refine VV.b (b_eqT (by omega) (by omega)) ?_ | refine VV.b (b_eqF (by omega) (by omega)) ?_ | refine VV.b (b_neT (by omega) (by omega)) ?_ | refine VV.b (b_neF (by omega) (by omega)) ?_)
  · intro V hV
    repeat (first | refine VV.jln (a := 23) (n := 4) rfl rfl rfl ?_ | refine VV.add rfl ?_ | refine VV.inc rfl rfl rfl ?_ | refine VV.mul rfl ?_ | refine VV.sub rfl (by omega) ?_ | refine VV.shl1 rfl (by omega) ?_ | refine VV.shl rfl ⟨by omega, by omega⟩ ?_ | refine VV.shr rfl ⟨by omega, by omega⟩ ?_ | refine VV.and rfl ?_ | refine VV.div rfl ⟨by omega, by omega, by omega⟩ ?_ | refine VV.rem rfl ⟨by omega, by omega, by omega⟩ ?_ | refine VV.s rfl ?_  | refine VV.b (b_ltT (by omega) (by omega)) ?_ | refine VV.b (b_ltF (by omega) (by omega)) ?_ | refine VV.b (b_geT (by omega) (by omega)) ?_ | refine VV.b (b_geF (by omega) (by omega)) ?_ | refine VV.b (b_gtT (by omega) (by omega)) ?_ | refine VV.b (b_gtF (by omega) (by omega)) ?_ | refine VV.b (b_leT (by omega) (by omega)) ?_ | refine VV.b (b_leF (by omega) (by omega)) ?_ | refine VV.b (b_eqT (by omega) (by omega)) ?_ | refine VV.b (b_eqF (by omega) (by omega)) ?_ | refine VV.b (b_neT (by omega) (by omega)) ?_ | refine VV.b (b_neF (by omega) (by omega)) ?_)
    (refine VV.c rfl ?_; refine cr_copyFrom (o := 24) (p := 9) rfl rfl (by decide) (show up (up τ 1802 (nI c.n)) 2102 (nI (c.m 1)) 902 = nI (c.m 2) from h.note.h) i.nm i.nm (fun a2 h2 => ?_))
    repeat refine VV.s rfl ?_
    (refine VV.c rfl ?_; refine cr_copyFrom (o := 26) (p := 11) rfl rfl (by decide) (show up (up (up τ 1802 (nI c.n)) 2102 (nI (c.m 1))) 2402 (nI (c.m 2)) 1102 = nI (c.m 3) from h.seen.h) i.sm i.sm (fun a3 h3 => ?_))
    repeat refine VV.s rfl ?_
    (refine VV.c rfl ?_; refine cr_copyFrom (o := 28) (p := 13) rfl rfl (by decide) (show up (up (up (up τ 1802 (nI c.n)) 2102 (nI (c.m 1))) 2402 (nI (c.m 2))) 2602 (nI (c.m 3)) 1302 = nI (c.m 4) from h.event.h) i.em i.em (fun a4 h4 => ?_))
    repeat refine VV.s rfl ?_
    (refine VV.c rfl ?_; refine cr_copyFrom (o := 30) (p := 15) rfl rfl (by decide) (show up (up (up (up (up τ 1802 (nI c.n)) 2102 (nI (c.m 1))) 2402 (nI (c.m 2))) 2602 (nI (c.m 3))) 2802 (nI (c.m 4)) 1502 = nI (c.m 5) from h.book.h) i.bm i.bm (fun a5 h5 => ?_))
    repeat refine VV.s rfl ?_
    refine VV.r rfl (q E V a1 a2 a3 a4 a5 (RS.mk rfl (fun a b ha hb => ?_) (fun j hj => ?_) ⟨rfl, fun k w hk hw => ?_⟩ ⟨rfl, fun k w hk hw => ?_⟩ ⟨rfl, fun k w hk hw => ?_⟩ ⟨rfl, fun k w hk hw => ?_⟩ ⟨rfl, fun k w hk hw => ?_⟩))
    · exact (hE a b ha hb).trans (h.E a b ha hb)
    · exact (hV j hj).trans (h.V j hj)
    · exact (h1 k w hk hw).trans (h.chip.r k w hk hw)
    · exact (h2 k w hk hw).trans (h.note.r k w hk hw)
    · exact (h3 k w hk hw).trans (h.seen.r k w hk hw)
    · exact (h4 k w hk hw).trans (h.event.r k w hk hw)
    · exact (h5 k w hk hw).trans (h.book.r k w hk hw)
theorem RX.scn {s : St} {τ τ' : Nat → Int32} {A A' : Nat → Nat → Int32} {B B' : Nat → Nat → Int64} {c' : Co} {im' : Option Co} (h : RX s τ A B) (ht : ∀ k, 3800 ≤ k → τ' k = τ k) (ha : ∀ k, 39 ≤ k → A' k = A k) (hb : ∀ k, 47 ≤ k → B' k = B k) (now : RS 0 c' τ' A' B') (i0 : im' = none → τ' 102 = nI 0) (i1 : ∀ c, im' = some c → τ' 102 = nI 1 ∧ RS 15 c τ' A' B') : RX (c', im', s.2.2) τ' A' B' :=
  RX.mk now i0 i1 (by rw [ht _ (by omega)]; exact h.th) (fun k hk => by rw [ha _ (by omega)]; exact h.tx k hk) (fun t h6 => by rw [ht _ (by omega)]; exact h.ts t h6) (fun t h6 => by rw [ht _ (by omega)]; exact h.tl t h6) (fun t j h6 hj => by rw [hb _ (by omega)]; exact h.ti t j h6 hj)
def oImage (s : St) : Int32 × St := (nI (s.c.m 1), (s.1, some s.c, s.2.2))
def oUndo (s : St) : Int32 × St := match s.im with
  | none => (-(nI 3), s)
  | some c => (nI (c.m 1), s.sc c)
section X7
variable {d : Nat} {s : St}
theorem x_factor (i : IV s) {x p : Int32} : KXJ (d + 7) M_T_factor [.ref 1, .int x, .int p] s (oFactor s x p) := by
  intro S τ A B Q h q
  unfold oFactor at q
  have hn : τ (100 * 3 + 2) = nI s.c.n := h.now.n
  have h4 := i.c.n4
  have hE : ∀ i j, i < s.c.n → j < s.c.n → B 4 (4 * i + j) = s.c.E (4 * i + j) := fun a b ha hb => h.now.E a b ha hb
  refine CC.of rfl ?_
  repeat refine VV.s rfl ?_
  (refine VV.c rfl ?_; refine c_hasSpot (g := 3) rfl hn h4 ?_)
  cases hb : spB s.c.n x with
  | false =>
    rw [if_neg (fun z => by rw [hb] at z; cases z.1)] at q
    repeat (first | refine VV.add rfl ?_ | refine VV.inc rfl rfl rfl ?_ | refine VV.mul rfl ?_ | refine VV.sub rfl (by omega) ?_ | refine VV.shl1 rfl (by omega) ?_ | refine VV.shl rfl ⟨by omega, by omega⟩ ?_ | refine VV.shr rfl ⟨by omega, by omega⟩ ?_ | refine VV.and rfl ?_ | refine VV.div rfl ⟨by omega, by omega, by omega⟩ ?_ | refine VV.rem rfl ⟨by omega, by omega, by omega⟩ ?_ | refine VV.s rfl ?_  | refine VV.b (b_ltT (by omega) (by omega)) ?_ | refine VV.b (b_ltF (by omega) (by omega)) ?_ | refine VV.b (b_geT (by omega) (by omega)) ?_ | refine VV.b (b_geF (by omega) (by omega)) ?_ | refine VV.b (b_gtT (by omega) (by omega)) ?_ | refine VV.b (b_gtF (by omega) (by omega)) ?_ | refine VV.b (b_leT (by omega) (by omega)) ?_ | refine VV.b (b_leF (by omega) (by omega)) ?_ | refine VV.b (b_eqT (by omega) (by omega)) ?_ | refine VV.b (b_eqF (by omega) (by omega)) ?_ | refine VV.b (b_neT (by omega) (by omega)) ?_ | refine VV.b (b_neF (by omega) (by omega)) ?_)
    exact VV.r rfl (q τ A B h FX.refl)
  | true =>
    show VV _ _ _ _ [.int (nI 1)] _ _
    repeat (first | refine VV.add rfl ?_ | refine VV.inc rfl rfl rfl ?_ | refine VV.mul rfl ?_ | refine VV.sub rfl (by omega) ?_ | refine VV.shl1 rfl (by omega) ?_ | refine VV.shl rfl ⟨by omega, by omega⟩ ?_ | refine VV.shr rfl ⟨by omega, by omega⟩ ?_ | refine VV.and rfl ?_ | refine VV.div rfl ⟨by omega, by omega, by omega⟩ ?_ | refine VV.rem rfl ⟨by omega, by omega, by omega⟩ ?_ | refine VV.s rfl ?_  | refine VV.b (b_ltT (by omega) (by omega)) ?_ | refine VV.b (b_ltF (by omega) (by omega)) ?_ | refine VV.b (b_geT (by omega) (by omega)) ?_ | refine VV.b (b_geF (by omega) (by omega)) ?_ | refine VV.b (b_gtT (by omega) (by omega)) ?_ | refine VV.b (b_gtF (by omega) (by omega)) ?_ | refine VV.b (b_leT (by omega) (by omega)) ?_ | refine VV.b (b_leF (by omega) (by omega)) ?_ | refine VV.b (b_eqT (by omega) (by omega)) ?_ | refine VV.b (b_eqF (by omega) (by omega)) ?_ | refine VV.b (b_neT (by omega) (by omega)) ?_ | refine VV.b (b_neF (by omega) (by omega)) ?_)
    (refine VV.c rfl ?_; refine cx_is01 ?_)
    cases e2 : o01 p with
    | false =>
      rw [if_neg (fun z => by rw [e2] at z; cases z.2.1)] at q
      repeat (first | refine VV.add rfl ?_ | refine VV.inc rfl rfl rfl ?_ | refine VV.mul rfl ?_ | refine VV.sub rfl (by omega) ?_ | refine VV.shl1 rfl (by omega) ?_ | refine VV.shl rfl ⟨by omega, by omega⟩ ?_ | refine VV.shr rfl ⟨by omega, by omega⟩ ?_ | refine VV.and rfl ?_ | refine VV.div rfl ⟨by omega, by omega, by omega⟩ ?_ | refine VV.rem rfl ⟨by omega, by omega, by omega⟩ ?_ | refine VV.s rfl ?_  | refine VV.b (b_ltT (by omega) (by omega)) ?_ | refine VV.b (b_ltF (by omega) (by omega)) ?_ | refine VV.b (b_geT (by omega) (by omega)) ?_ | refine VV.b (b_geF (by omega) (by omega)) ?_ | refine VV.b (b_gtT (by omega) (by omega)) ?_ | refine VV.b (b_gtF (by omega) (by omega)) ?_ | refine VV.b (b_leT (by omega) (by omega)) ?_ | refine VV.b (b_leF (by omega) (by omega)) ?_ | refine VV.b (b_eqT (by omega) (by omega)) ?_ | refine VV.b (b_eqF (by omega) (by omega)) ?_ | refine VV.b (b_neT (by omega) (by omega)) ?_ | refine VV.b (b_neF (by omega) (by omega)) ?_)
      exact VV.r rfl (q τ A B h FX.refl)
    | true =>
      show VV _ _ _ _ [.int (nI 1)] _ _
      repeat (first | refine VV.add rfl ?_ | refine VV.inc rfl rfl rfl ?_ | refine VV.mul rfl ?_ | refine VV.sub rfl (by omega) ?_ | refine VV.shl1 rfl (by omega) ?_ | refine VV.shl rfl ⟨by omega, by omega⟩ ?_ | refine VV.shr rfl ⟨by omega, by omega⟩ ?_ | refine VV.and rfl ?_ | refine VV.div rfl ⟨by omega, by omega, by omega⟩ ?_ | refine VV.rem rfl ⟨by omega, by omega, by omega⟩ ?_ | refine VV.s rfl ?_  | refine VV.b (b_ltT (by omega) (by omega)) ?_ | refine VV.b (b_ltF (by omega) (by omega)) ?_ | refine VV.b (b_geT (by omega) (by omega)) ?_ | refine VV.b (b_geF (by omega) (by omega)) ?_ | refine VV.b (b_gtT (by omega) (by omega)) ?_ | refine VV.b (b_gtF (by omega) (by omega)) ?_ | refine VV.b (b_leT (by omega) (by omega)) ?_ | refine VV.b (b_leF (by omega) (by omega)) ?_ | refine VV.b (b_eqT (by omega) (by omega)) ?_ | refine VV.b (b_eqF (by omega) (by omega)) ?_ | refine VV.b (b_neT (by omega) (by omega)) ?_ | refine VV.b (b_neF (by omega) (by omega)) ?_)
      have eB : up B 5 (B 5) = B := up_id B 5
      rw [← eB]
      (refine VV.c rfl ?_; refine c_isPositive (g := 3) rfl hn h4 (fun f => ?_))
      rw [show amI (B (3 + 1)) s.c.n s.c.n 0 = amI s.c.E s.c.n s.c.n 0 from amI_congr h4 hE s.c.n 0 (by omega)]
      by_cases c : amI s.c.E s.c.n s.c.n 0 = none
      · rw [decide_eq_true c]
        rw [if_pos ⟨hb, e2, c⟩] at q
        have hp := (pos_iff i.c.n2 h4 i.c.E).mp c
        obtain ⟨a, b, ha, hb10, hbn, rfl, hab⟩ := spB_spec hb
        rw [nI_clamp (by omega), show (10 * a + b) / 10 = a by omega, show (10 * a + b) % 10 = b by omega] at q
        unfold facT at q
        show VV _ _ _ _ [.int (nI 1)] _ _
        repeat (first | refine VV.add rfl ?_ | refine VV.inc rfl rfl rfl ?_ | refine VV.mul rfl ?_ | refine VV.sub rfl (by omega) ?_ | refine VV.shl1 rfl (by omega) ?_ | refine VV.shl rfl ⟨by omega, by omega⟩ ?_ | refine VV.shr rfl ⟨by omega, by omega⟩ ?_ | refine VV.and rfl ?_ | refine VV.div rfl ⟨by omega, by omega, by omega⟩ ?_ | refine VV.rem rfl ⟨by omega, by omega, by omega⟩ ?_ | refine VV.s rfl ?_  | refine VV.b (b_ltT (by omega) (by omega)) ?_ | refine VV.b (b_ltF (by omega) (by omega)) ?_ | refine VV.b (b_geT (by omega) (by omega)) ?_ | refine VV.b (b_geF (by omega) (by omega)) ?_ | refine VV.b (b_gtT (by omega) (by omega)) ?_ | refine VV.b (b_gtF (by omega) (by omega)) ?_ | refine VV.b (b_leT (by omega) (by omega)) ?_ | refine VV.b (b_leF (by omega) (by omega)) ?_ | refine VV.b (b_eqT (by omega) (by omega)) ?_ | refine VV.b (b_eqF (by omega) (by omega)) ?_ | refine VV.b (b_neT (by omega) (by omega)) ?_ | refine VV.b (b_neF (by omega) (by omega)) ?_)
        (refine VV.c rfl ?_; refine c_rowOfN hb10 hab ?_)
        repeat (first | refine VV.add rfl ?_ | refine VV.inc rfl rfl rfl ?_ | refine VV.mul rfl ?_ | refine VV.sub rfl (by omega) ?_ | refine VV.shl1 rfl (by omega) ?_ | refine VV.shl rfl ⟨by omega, by omega⟩ ?_ | refine VV.shr rfl ⟨by omega, by omega⟩ ?_ | refine VV.and rfl ?_ | refine VV.div rfl ⟨by omega, by omega, by omega⟩ ?_ | refine VV.rem rfl ⟨by omega, by omega, by omega⟩ ?_ | refine VV.s rfl ?_  | refine VV.b (b_ltT (by omega) (by omega)) ?_ | refine VV.b (b_ltF (by omega) (by omega)) ?_ | refine VV.b (b_geT (by omega) (by omega)) ?_ | refine VV.b (b_geF (by omega) (by omega)) ?_ | refine VV.b (b_gtT (by omega) (by omega)) ?_ | refine VV.b (b_gtF (by omega) (by omega)) ?_ | refine VV.b (b_leT (by omega) (by omega)) ?_ | refine VV.b (b_leF (by omega) (by omega)) ?_ | refine VV.b (b_eqT (by omega) (by omega)) ?_ | refine VV.b (b_eqF (by omega) (by omega)) ?_ | refine VV.b (b_neT (by omega) (by omega)) ?_ | refine VV.b (b_neF (by omega) (by omega)) ?_)
        (refine VV.c rfl ?_; refine c_columnOfN hb10 hab ?_)
        by_cases cab : a = b
        · rw [if_pos cab, ← edg_congr h4 hE (show 0 + (a + 1) ≤ s.c.n by omega), ← edg_congr h4 hE (show 0 + a ≤ s.c.n by omega)] at q
          have bb := fac_d h4 i.c.E hp (show a < s.c.n from ha)
          rw [← edg_congr h4 hE (show 0 + (a + 1) ≤ s.c.n by omega), ← edg_congr h4 hE (show 0 + a ≤ s.c.n by omega)] at bb
          repeat (first | refine VV.add rfl ?_ | refine VV.inc rfl rfl rfl ?_ | refine VV.mul rfl ?_ | refine VV.sub rfl (by omega) ?_ | refine VV.shl1 rfl (by omega) ?_ | refine VV.shl rfl ⟨by omega, by omega⟩ ?_ | refine VV.shr rfl ⟨by omega, by omega⟩ ?_ | refine VV.and rfl ?_ | refine VV.div rfl ⟨by omega, by omega, by omega⟩ ?_ | refine VV.rem rfl ⟨by omega, by omega, by omega⟩ ?_ | refine VV.s rfl ?_  | refine VV.b (b_ltT (by omega) (by omega)) ?_ | refine VV.b (b_ltF (by omega) (by omega)) ?_ | refine VV.b (b_geT (by omega) (by omega)) ?_ | refine VV.b (b_geF (by omega) (by omega)) ?_ | refine VV.b (b_gtT (by omega) (by omega)) ?_ | refine VV.b (b_gtF (by omega) (by omega)) ?_ | refine VV.b (b_leT (by omega) (by omega)) ?_ | refine VV.b (b_leF (by omega) (by omega)) ?_ | refine VV.b (b_eqT (by omega) (by omega)) ?_ | refine VV.b (b_eqF (by omega) (by omega)) ?_ | refine VV.b (b_neT (by omega) (by omega)) ?_ | refine VV.b (b_neF (by omega) (by omega)) ?_)
          (refine VV.c rfl ?_; refine cx_edge (t := false) hn h4 (show 0 + (a + 1) ≤ s.c.n by omega) (fun f => ?_))
          repeat refine VV.s rfl ?_
          (refine VV.c rfl ?_; refine cx_edge (t := false) hn h4 (show 0 + a ≤ s.c.n by omega) (fun f => ?_))
          repeat refine VV.s rfl ?_
          (refine VV.c rfl ?_; refine cx_low bb.1 bb.2.1 bb.2.2 ?_)
          exact VV.r rfl (q _ _ _ (h.b5 f) (FX.b5 f))
        · rw [if_neg cab] at q
          have fin : ∀ I J t, J < I → I < s.c.n → max a b = I → min a b = J → decide (a < b) = t → ∀ f, VV (d + 7) M_T_factor 101 [some (.ref 1), some (.int (nI (10 * a + b))), some (.int p), some (.int (nI a)), some (.int (nI b))] [.int p, .int (bI t), .int (nI J), .int (nI I), .ref 1] (HH S τ A (up B 5 f)) Q := by
            intro I J t hJ hI eI eJ et f
            rw [eI, eJ, et] at q
            rw [← edg_congr h4 hE (show I - J + (J + 1) ≤ s.c.n by omega), ← edg_congr h4 hE (show I - J - 1 + J ≤ s.c.n by omega), ← edg_congr h4 hE (show I - J + J ≤ s.c.n by omega), ← edg_congr h4 hE (show I - J - 1 + (J + 1) ≤ s.c.n by omega)] at q
            have bb := fac_b h4 i.c.E hp hI hJ t
            rw [← edg_congr h4 hE (show I - J + (J + 1) ≤ s.c.n by omega), ← edg_congr h4 hE (show I - J - 1 + J ≤ s.c.n by omega), ← edg_congr h4 hE (show I - J + J ≤ s.c.n by omega), ← edg_congr h4 hE (show I - J - 1 + (J + 1) ≤ s.c.n by omega)] at bb
            refine VV.c rfl ?_
            refine CC.of rfl ?_
            repeat (first | refine VV.add rfl ?_ | refine VV.inc rfl rfl rfl ?_ | refine VV.mul rfl ?_ | refine VV.sub rfl (by omega) ?_ | refine VV.shl1 rfl (by omega) ?_ | refine VV.shl rfl ⟨by omega, by omega⟩ ?_ | refine VV.shr rfl ⟨by omega, by omega⟩ ?_ | refine VV.and rfl ?_ | refine VV.div rfl ⟨by omega, by omega, by omega⟩ ?_ | refine VV.rem rfl ⟨by omega, by omega, by omega⟩ ?_ | refine VV.s rfl ?_  | refine VV.b (b_ltT (by omega) (by omega)) ?_ | refine VV.b (b_ltF (by omega) (by omega)) ?_ | refine VV.b (b_geT (by omega) (by omega)) ?_ | refine VV.b (b_geF (by omega) (by omega)) ?_ | refine VV.b (b_gtT (by omega) (by omega)) ?_ | refine VV.b (b_gtF (by omega) (by omega)) ?_ | refine VV.b (b_leT (by omega) (by omega)) ?_ | refine VV.b (b_leF (by omega) (by omega)) ?_ | refine VV.b (b_eqT (by omega) (by omega)) ?_ | refine VV.b (b_eqF (by omega) (by omega)) ?_ | refine VV.b (b_neT (by omega) (by omega)) ?_ | refine VV.b (b_neF (by omega) (by omega)) ?_)
            (refine VV.c rfl ?_; refine cx_edge (t := t) hn h4 (show I - J + (J + 1) ≤ s.c.n by omega) (fun f => ?_))
            repeat (first | refine VV.add rfl ?_ | refine VV.inc rfl rfl rfl ?_ | refine VV.mul rfl ?_ | refine VV.sub rfl (by omega) ?_ | refine VV.shl1 rfl (by omega) ?_ | refine VV.shl rfl ⟨by omega, by omega⟩ ?_ | refine VV.shr rfl ⟨by omega, by omega⟩ ?_ | refine VV.and rfl ?_ | refine VV.div rfl ⟨by omega, by omega, by omega⟩ ?_ | refine VV.rem rfl ⟨by omega, by omega, by omega⟩ ?_ | refine VV.s rfl ?_  | refine VV.b (b_ltT (by omega) (by omega)) ?_ | refine VV.b (b_ltF (by omega) (by omega)) ?_ | refine VV.b (b_geT (by omega) (by omega)) ?_ | refine VV.b (b_geF (by omega) (by omega)) ?_ | refine VV.b (b_gtT (by omega) (by omega)) ?_ | refine VV.b (b_gtF (by omega) (by omega)) ?_ | refine VV.b (b_leT (by omega) (by omega)) ?_ | refine VV.b (b_leF (by omega) (by omega)) ?_ | refine VV.b (b_eqT (by omega) (by omega)) ?_ | refine VV.b (b_eqF (by omega) (by omega)) ?_ | refine VV.b (b_neT (by omega) (by omega)) ?_ | refine VV.b (b_neF (by omega) (by omega)) ?_)
            (refine VV.c rfl ?_; refine cx_edge (t := t) hn h4 (show I - J - 1 + J ≤ s.c.n by omega) (fun f => ?_))
            repeat (first | refine VV.add rfl ?_ | refine VV.inc rfl rfl rfl ?_ | refine VV.mul rfl ?_ | refine VV.sub rfl (by omega) ?_ | refine VV.shl1 rfl (by omega) ?_ | refine VV.shl rfl ⟨by omega, by omega⟩ ?_ | refine VV.shr rfl ⟨by omega, by omega⟩ ?_ | refine VV.and rfl ?_ | refine VV.div rfl ⟨by omega, by omega, by omega⟩ ?_ | refine VV.rem rfl ⟨by omega, by omega, by omega⟩ ?_ | refine VV.s rfl ?_  | refine VV.b (b_ltT (by omega) (by omega)) ?_ | refine VV.b (b_ltF (by omega) (by omega)) ?_ | refine VV.b (b_geT (by omega) (by omega)) ?_ | refine VV.b (b_geF (by omega) (by omega)) ?_ | refine VV.b (b_gtT (by omega) (by omega)) ?_ | refine VV.b (b_gtF (by omega) (by omega)) ?_ | refine VV.b (b_leT (by omega) (by omega)) ?_ | refine VV.b (b_leF (by omega) (by omega)) ?_ | refine VV.b (b_eqT (by omega) (by omega)) ?_ | refine VV.b (b_eqF (by omega) (by omega)) ?_ | refine VV.b (b_neT (by omega) (by omega)) ?_ | refine VV.b (b_neF (by omega) (by omega)) ?_)
            (refine VV.c rfl ?_; refine cx_edge (t := t) hn h4 (show I - J + J ≤ s.c.n by omega) (fun f => ?_))
            repeat (first | refine VV.add rfl ?_ | refine VV.inc rfl rfl rfl ?_ | refine VV.mul rfl ?_ | refine VV.sub rfl (by omega) ?_ | refine VV.shl1 rfl (by omega) ?_ | refine VV.shl rfl ⟨by omega, by omega⟩ ?_ | refine VV.shr rfl ⟨by omega, by omega⟩ ?_ | refine VV.and rfl ?_ | refine VV.div rfl ⟨by omega, by omega, by omega⟩ ?_ | refine VV.rem rfl ⟨by omega, by omega, by omega⟩ ?_ | refine VV.s rfl ?_  | refine VV.b (b_ltT (by omega) (by omega)) ?_ | refine VV.b (b_ltF (by omega) (by omega)) ?_ | refine VV.b (b_geT (by omega) (by omega)) ?_ | refine VV.b (b_geF (by omega) (by omega)) ?_ | refine VV.b (b_gtT (by omega) (by omega)) ?_ | refine VV.b (b_gtF (by omega) (by omega)) ?_ | refine VV.b (b_leT (by omega) (by omega)) ?_ | refine VV.b (b_leF (by omega) (by omega)) ?_ | refine VV.b (b_eqT (by omega) (by omega)) ?_ | refine VV.b (b_eqF (by omega) (by omega)) ?_ | refine VV.b (b_neT (by omega) (by omega)) ?_ | refine VV.b (b_neF (by omega) (by omega)) ?_)
            (refine VV.c rfl ?_; refine cx_edge (t := t) hn h4 (show I - J - 1 + (J + 1) ≤ s.c.n by omega) (fun f => ?_))
            repeat (first | refine VV.add rfl ?_ | refine VV.inc rfl rfl rfl ?_ | refine VV.mul rfl ?_ | refine VV.sub rfl (by omega) ?_ | refine VV.shl1 rfl (by omega) ?_ | refine VV.shl rfl ⟨by omega, by omega⟩ ?_ | refine VV.shr rfl ⟨by omega, by omega⟩ ?_ | refine VV.and rfl ?_ | refine VV.div rfl ⟨by omega, by omega, by omega⟩ ?_ | refine VV.rem rfl ⟨by omega, by omega, by omega⟩ ?_ | refine VV.s rfl ?_  | refine VV.b (b_ltT (by omega) (by omega)) ?_ | refine VV.b (b_ltF (by omega) (by omega)) ?_ | refine VV.b (b_geT (by omega) (by omega)) ?_ | refine VV.b (b_geF (by omega) (by omega)) ?_ | refine VV.b (b_gtT (by omega) (by omega)) ?_ | refine VV.b (b_gtF (by omega) (by omega)) ?_ | refine VV.b (b_leT (by omega) (by omega)) ?_ | refine VV.b (b_leF (by omega) (by omega)) ?_ | refine VV.b (b_eqT (by omega) (by omega)) ?_ | refine VV.b (b_eqF (by omega) (by omega)) ?_ | refine VV.b (b_neT (by omega) (by omega)) ?_ | refine VV.b (b_neF (by omega) (by omega)) ?_)
            (refine VV.c rfl ?_; refine cx_low bb.1 bb.2.1 bb.2.2 ?_)
            refine VV.r rfl ?_
            exact VV.r rfl (q _ _ _ (h.b5 f) (FX.b5 f))
          have mx : ∀ t, decide (a < b) = t → VV (d + 7) M_T_factor 89 [some (.ref 1), some (.int (nI (10 * a + b))), some (.int p), some (.int (nI a)), some (.int (nI b))] [.int (nI (min a b)), .int (nI (max a b)), .ref 1] (HH S τ A (up B 5 f)) Q := by
            intro t et
            have := fin (max a b) (min a b) t (by omega) (by omega) rfl rfl et f
            cases t with
            | true =>
              have clt := of_decide_eq_true et
              repeat (first | exact this | refine VV.add rfl ?_ | refine VV.inc rfl rfl rfl ?_ | refine VV.mul rfl ?_ | refine VV.sub rfl (by omega) ?_ | refine VV.shl1 rfl (by omega) ?_ | refine VV.shl rfl ⟨by omega, by omega⟩ ?_ | refine VV.shr rfl ⟨by omega, by omega⟩ ?_ | refine VV.and rfl ?_ | refine VV.div rfl ⟨by omega, by omega, by omega⟩ ?_ | refine VV.rem rfl ⟨by omega, by omega, by omega⟩ ?_ | refine VV.s rfl ?_  | refine VV.b (b_ltT (by omega) (by omega)) ?_ | refine VV.b (b_ltF (by omega) (by omega)) ?_ | refine VV.b (b_geT (by omega) (by omega)) ?_ | refine VV.b (b_geF (by omega) (by omega)) ?_ | refine VV.b (b_gtT (by omega) (by omega)) ?_ | refine VV.b (b_gtF (by omega) (by omega)) ?_ | refine VV.b (b_leT (by omega) (by omega)) ?_ | refine VV.b (b_leF (by omega) (by omega)) ?_ | refine VV.b (b_eqT (by omega) (by omega)) ?_ | refine VV.b (b_eqF (by omega) (by omega)) ?_ | refine VV.b (b_neT (by omega) (by omega)) ?_ | refine VV.b (b_neF (by omega) (by omega)) ?_)
            | false =>
              have clt := of_decide_eq_false et
              repeat (first | exact this | refine VV.add rfl ?_ | refine VV.inc rfl rfl rfl ?_ | refine VV.mul rfl ?_ | refine VV.sub rfl (by omega) ?_ | refine VV.shl1 rfl (by omega) ?_ | refine VV.shl rfl ⟨by omega, by omega⟩ ?_ | refine VV.shr rfl ⟨by omega, by omega⟩ ?_ | refine VV.and rfl ?_ | refine VV.div rfl ⟨by omega, by omega, by omega⟩ ?_ | refine VV.rem rfl ⟨by omega, by omega, by omega⟩ ?_ | refine VV.s rfl ?_  | refine VV.b (b_ltT (by omega) (by omega)) ?_ | refine VV.b (b_ltF (by omega) (by omega)) ?_ | refine VV.b (b_geT (by omega) (by omega)) ?_ | refine VV.b (b_geF (by omega) (by omega)) ?_ | refine VV.b (b_gtT (by omega) (by omega)) ?_ | refine VV.b (b_gtF (by omega) (by omega)) ?_ | refine VV.b (b_leT (by omega) (by omega)) ?_ | refine VV.b (b_leF (by omega) (by omega)) ?_ | refine VV.b (b_eqT (by omega) (by omega)) ?_ | refine VV.b (b_eqF (by omega) (by omega)) ?_ | refine VV.b (b_neT (by omega) (by omega)) ?_ | refine VV.b (b_neF (by omega) (by omega)) ?_)
          have := mx _ rfl
          repeat (first | exact this | refine VV.maxi rfl ⟨by omega, by omega⟩ (Nat.le_of_ble_eq_true rfl) ?_ | refine VV.mini rfl ⟨by omega, by omega⟩ (Nat.le_of_ble_eq_true rfl) ?_ | refine VV.add rfl ?_ | refine VV.inc rfl rfl rfl ?_ | refine VV.mul rfl ?_ | refine VV.sub rfl (by omega) ?_ | refine VV.shl1 rfl (by omega) ?_ | refine VV.shl rfl ⟨by omega, by omega⟩ ?_ | refine VV.shr rfl ⟨by omega, by omega⟩ ?_ | refine VV.and rfl ?_ | refine VV.div rfl ⟨by omega, by omega, by omega⟩ ?_ | refine VV.rem rfl ⟨by omega, by omega, by omega⟩ ?_ | refine VV.s rfl ?_  | refine VV.b (b_ltT (by omega) (by omega)) ?_ | refine VV.b (b_ltF (by omega) (by omega)) ?_ | refine VV.b (b_geT (by omega) (by omega)) ?_ | refine VV.b (b_geF (by omega) (by omega)) ?_ | refine VV.b (b_gtT (by omega) (by omega)) ?_ | refine VV.b (b_gtF (by omega) (by omega)) ?_ | refine VV.b (b_leT (by omega) (by omega)) ?_ | refine VV.b (b_leF (by omega) (by omega)) ?_ | refine VV.b (b_eqT (by omega) (by omega)) ?_ | refine VV.b (b_eqF (by omega) (by omega)) ?_ | refine VV.b (b_neT (by omega) (by omega)) ?_ | refine VV.b (b_neF (by omega) (by omega)) ?_)
      · rw [decide_eq_false c]
        rw [if_neg (fun z => c z.2.2)] at q
        show VV _ _ _ _ [.int (nI 0)] _ _
        repeat (first | refine VV.add rfl ?_ | refine VV.inc rfl rfl rfl ?_ | refine VV.mul rfl ?_ | refine VV.sub rfl (by omega) ?_ | refine VV.shl1 rfl (by omega) ?_ | refine VV.shl rfl ⟨by omega, by omega⟩ ?_ | refine VV.shr rfl ⟨by omega, by omega⟩ ?_ | refine VV.and rfl ?_ | refine VV.div rfl ⟨by omega, by omega, by omega⟩ ?_ | refine VV.rem rfl ⟨by omega, by omega, by omega⟩ ?_ | refine VV.s rfl ?_  | refine VV.b (b_ltT (by omega) (by omega)) ?_ | refine VV.b (b_ltF (by omega) (by omega)) ?_ | refine VV.b (b_geT (by omega) (by omega)) ?_ | refine VV.b (b_geF (by omega) (by omega)) ?_ | refine VV.b (b_gtT (by omega) (by omega)) ?_ | refine VV.b (b_gtF (by omega) (by omega)) ?_ | refine VV.b (b_leT (by omega) (by omega)) ?_ | refine VV.b (b_leF (by omega) (by omega)) ?_ | refine VV.b (b_eqT (by omega) (by omega)) ?_ | refine VV.b (b_eqF (by omega) (by omega)) ?_ | refine VV.b (b_neT (by omega) (by omega)) ?_ | refine VV.b (b_neF (by omega) (by omega)) ?_)
        exact VV.r rfl (q _ _ _ (h.b5 f) (FX.b5 f))
theorem x_image (i : IV s) : KX (d + 5) M_T_image [.ref 1] s (oImage s) := by
  intro S τ A B Q h q
  refine CC.of rfl ?_
  repeat refine VV.s rfl ?_
  (refine VV.c rfl ?_; refine cn_copy17 i.c h.now (fun E V a1 a2 a3 a4 a5 rs => ?_))
  refine VV.s rfl ?_
  refine VV.s rfl ?_
  refine VV.p rfl rfl (show 2 < 10 by decide) rfl (wf_102 _ _ _ _ _) ?_
  repeat refine VV.s rfl ?_
  (refine VV.c rfl ?_; refine cr_held (o := 21) rfl rs.chip.h ?_)
  refine VV.r rfl (q _ _ _ (h.scn (fun k hk => by repeat rw [up_n (by omega)]) (fun k hk => by repeat rw [up_n (by omega)]) (fun k hk => by repeat rw [up_n (by omega)]) (RS.mk h.now.n h.now.E h.now.V h.now.chip h.now.note h.now.seen h.now.event h.now.book) (fun e => (by cases e)) (fun c e => ?_)) ?_)
  · cases e
    exact ⟨rfl, rs⟩
  · exact FX.ut (by decide) (FX.ut (by decide) (FX.ut (by decide) (FX.ut (by decide) (FX.ut (by decide) (FX.ut (by decide) (FX.ut (by decide) (FX.ua (by decide) (FX.ua (by decide) (FX.ua (by decide) (FX.ua (by decide) (FX.ua (by decide) (FX.ub (by decide) (FX.ub (by decide) FX.refl)))))))))))))
theorem x_undo (i : IV s) : KX (d + 5) M_T_undo [.ref 1] s (oUndo s) := by
  intro S τ A B Q h q
  unfold oUndo at q
  refine CC.of rfl ?_
  refine VV.s rfl ?_
  cases e : s.im with
  | none =>
    rw [e] at q
    refine VV.gn rfl rfl rfl (h.im0 e) ?_
    repeat (first | refine VV.add rfl ?_ | refine VV.inc rfl rfl rfl ?_ | refine VV.mul rfl ?_ | refine VV.sub rfl (by omega) ?_ | refine VV.shl1 rfl (by omega) ?_ | refine VV.shl rfl ⟨by omega, by omega⟩ ?_ | refine VV.shr rfl ⟨by omega, by omega⟩ ?_ | refine VV.and rfl ?_ | refine VV.div rfl ⟨by omega, by omega, by omega⟩ ?_ | refine VV.rem rfl ⟨by omega, by omega, by omega⟩ ?_ | refine VV.s rfl ?_  | refine VV.b (b_ltT (by omega) (by omega)) ?_ | refine VV.b (b_ltF (by omega) (by omega)) ?_ | refine VV.b (b_geT (by omega) (by omega)) ?_ | refine VV.b (b_geF (by omega) (by omega)) ?_ | refine VV.b (b_gtT (by omega) (by omega)) ?_ | refine VV.b (b_gtF (by omega) (by omega)) ?_ | refine VV.b (b_leT (by omega) (by omega)) ?_ | refine VV.b (b_leF (by omega) (by omega)) ?_ | refine VV.b (b_eqT (by omega) (by omega)) ?_ | refine VV.b (b_eqF (by omega) (by omega)) ?_ | refine VV.b (b_neT (by omega) (by omega)) ?_ | refine VV.b (b_neF (by omega) (by omega)) ?_)
    exact VV.r rfl (q τ A B h FX.refl)
  | some c =>
    rw [e] at q
    obtain ⟨h1, h2⟩ := h.im1 c e
    have ic := i.im c e
    refine VV.gn rfl rfl rfl h1 ?_
    repeat (first | refine VV.add rfl ?_ | refine VV.inc rfl rfl rfl ?_ | refine VV.mul rfl ?_ | refine VV.sub rfl (by omega) ?_ | refine VV.shl1 rfl (by omega) ?_ | refine VV.shl rfl ⟨by omega, by omega⟩ ?_ | refine VV.shr rfl ⟨by omega, by omega⟩ ?_ | refine VV.and rfl ?_ | refine VV.div rfl ⟨by omega, by omega, by omega⟩ ?_ | refine VV.rem rfl ⟨by omega, by omega, by omega⟩ ?_ | refine VV.s rfl ?_  | refine VV.b (b_ltT (by omega) (by omega)) ?_ | refine VV.b (b_ltF (by omega) (by omega)) ?_ | refine VV.b (b_geT (by omega) (by omega)) ?_ | refine VV.b (b_geF (by omega) (by omega)) ?_ | refine VV.b (b_gtT (by omega) (by omega)) ?_ | refine VV.b (b_gtF (by omega) (by omega)) ?_ | refine VV.b (b_leT (by omega) (by omega)) ?_ | refine VV.b (b_leF (by omega) (by omega)) ?_ | refine VV.b (b_eqT (by omega) (by omega)) ?_ | refine VV.b (b_eqF (by omega) (by omega)) ?_ | refine VV.b (b_neT (by omega) (by omega)) ?_ | refine VV.b (b_neF (by omega) (by omega)) ?_)
    (refine VV.c rfl ?_; refine cn_copy2 ic h2 (fun E V a1 a2 a3 a4 a5 rs => ?_))
    repeat refine VV.s rfl ?_
    (refine VV.c rfl ?_; refine cr_held (o := 6) rfl rs.chip.h ?_)
    refine VV.r rfl (q _ _ _ (h.scn (fun k hk => by repeat rw [up_n (by omega)]) (fun k hk => by repeat rw [up_n (by omega)]) (fun k hk => by repeat rw [up_n (by omega)]) rs h.im0 (fun c e => ⟨(h.im1 c e).1, RS.mk (h.im1 c e).2.n (h.im1 c e).2.E (h.im1 c e).2.V (h.im1 c e).2.chip (h.im1 c e).2.note (h.im1 c e).2.seen (h.im1 c e).2.event (h.im1 c e).2.book⟩)) ?_)
    exact FX.ut (by decide) (FX.ut (by decide) (FX.ut (by decide) (FX.ut (by decide) (FX.ut (by decide) (FX.ut (by decide) (FX.ua (by decide) (FX.ua (by decide) (FX.ua (by decide) (FX.ua (by decide) (FX.ua (by decide) (FX.ub (by decide) (FX.ub (by decide) FX.refl))))))))))))
end X7
