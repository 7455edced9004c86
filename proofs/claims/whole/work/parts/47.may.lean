/-! the class's calls: numbers that may stand at a place, numbers that fit -/
theorem aff_step {p p0 p1 X X0 X1 sg v : Int64} (h1 : p = p0 + (p1 - p0) * v) (h2 : X = X0 + (X1 - X0) * v) : sg * p + X = (sg * p0 + X0) + ((sg * p1 + X1) - (sg * p0 + X0)) * v := by
  rw [h1, h2]
  grind
theorem mz_aff {E E0 E1 : Nat → Nat → Int64} {rc r0 r1 : Nat → Int64} {i C : Nat} {v : Int64} : ∀ m j sg, j + m = 4 → (∀ k, k < 4 → C / 2 ^ k % 2 = 1 → E i k * rc k = E0 i k * r0 k + (E1 i k * r1 k - E0 i k * r0 k) * v) → mz E rc i C m j sg = mz E0 r0 i C m j sg + (mz E1 r1 i C m j sg - mz E0 r0 i C m j sg) * v := by
  intro m
  induction m with
  | zero => intro j sg _ _; rw [mz, mz, mz]; grind
  | succ m ih =>
    intro j sg hj h
    rw [mz, mz, mz]
    by_cases c : C / 2 ^ j % 2 = 1
    · rw [if_pos c, if_pos c, if_pos c]
      rw [Int64.mul_assoc, Int64.mul_assoc, Int64.mul_assoc]
      exact aff_step (h j (by omega) c) (ih (j + 1) (-sg) (by omega) h)
    · rw [if_neg c, if_neg c, if_neg c]
      exact ih (j + 1) sg (by omega) h
abbrev upE (E : Nat → Int64) (p : Nat) (v : Int64) : Nat → Nat → Int64 := fun i j => up E p v (4 * i + j)
theorem dL_const {E : Nat → Int64} {i0 j0 : Nat} (hj0 : j0 < 4) {f R C : Nat} (hR : R < 16) (hC : C < 16) (h : ¬ R / 2 ^ i0 % 2 = 1) (v w : Int64) : dL (upE E (4 * i0 + j0) v) f R C = dL (upE E (4 * i0 + j0) w) f R C :=
  dL_congr f R C hR hC (fun i j hi hj g1 _ => by
    have : i ≠ i0 := fun z => h (z ▸ g1)
    show up E _ v _ = up E _ w _
    rw [up_n (by omega), up_n (by omega)])
theorem dL_aff {E : Nat → Int64} {i0 j0 : Nat} (hi0 : i0 < 4) (hj0 : j0 < 4) (v : Int64) : ∀ f R C, R < 16 → C < 16 → dL (upE E (4 * i0 + j0) v) f R C = dL (upE E (4 * i0 + j0) 0) f R C + (dL (upE E (4 * i0 + j0) 1) f R C - dL (upE E (4 * i0 + j0) 0) f R C) * v := by
  intro f
  induction f with
  | zero => intro R C _ _; rw [dL, dL, dL]; grind
  | succ f ih =>
    intro R C hR hC
    rw [dL, dL, dL]
    by_cases c : R = 0
    · rw [if_pos c, if_pos c, if_pos c]; grind
    · obtain ⟨l1, l2, _⟩ := t_low hR c
      obtain ⟨_, r1, _⟩ := t_clr hR l2 l1
      rw [if_neg c, if_neg c, if_neg c]
      refine mz_aff 4 0 1 rfl (fun k hk hb => ?_)
      have r2 := (t_clr hC hk hb).2.1
      by_cases e : lowb R = i0
      · have nb : ¬ (R ^^^ 2 ^ lowb R) / 2 ^ i0 % 2 = 1 := fun z => (t_bx hR l2 hi0 l1 z).2 e.symm
        rw [dL_const (E := E) hj0 r1 r2 nb v 0, dL_const (E := E) hj0 r1 r2 nb 1 0]
        have ea : up E (4 * i0 + j0) v (4 * lowb R + k) = up E (4 * i0 + j0) 0 (4 * lowb R + k) + (up E (4 * i0 + j0) 1 (4 * lowb R + k) - up E (4 * i0 + j0) 0 (4 * lowb R + k)) * v := by
          by_cases ek : k = j0
          · rw [e, ek, up_s, up_s, up_s]; grind
          · rw [e, up_n (by omega), up_n (by omega), up_n (by omega)]; grind
        show up E _ v _ * _ = up E _ 0 _ * _ + (up E _ 1 _ * _ - up E _ 0 _ * _) * v
        rw [ea]
        grind
      · have h1 := ih (R ^^^ 2 ^ lowb R) (C ^^^ 2 ^ k) r1 r2
        have ea : ∀ w, up E (4 * i0 + j0) w (4 * lowb R + k) = E (4 * lowb R + k) := fun w => up_n (by omega)
        show up E _ v _ * dL (upE E (4 * i0 + j0) v) f _ _ = up E _ 0 _ * dL (upE E (4 * i0 + j0) 0) f _ _ + (up E _ 1 _ * dL (upE E (4 * i0 + j0) 1) f _ _ - up E _ 0 _ * dL (upE E (4 * i0 + j0) 0) f _ _) * v
        rw [h1, ea, ea, ea]
        grind
theorem mnr_aff (E : Nat → Int64) {i0 j0 R C : Nat} (hi0 : i0 < 4) (hj0 : j0 < 4) (hR : R < 16) (hC : C < 16) (v : Int64) : mnr (up E (4 * i0 + j0) 0) R C + (mnr (up E (4 * i0 + j0) 1) R C - mnr (up E (4 * i0 + j0) 0) R C) * v = mnr (up E (4 * i0 + j0) v) R C := (dL_aff hi0 hj0 v 4 R C hR hC).symm
def vI (k : Nat) : Int32 := nI k - nI 99
theorem vI_0 : vI 0 = -(nI 99) := by decide
theorem vI_1 (k : Nat) : vI k + nI 1 = vI (k + 1) := by
  unfold vI
  rw [← nI_add k 1]
  grind
theorem vI_h (k : Nat) : vI k + nI 100 = nI (k + 1) := by
  unfold vI
  rw [← nI_add k 1, show nI 100 = nI 99 + nI 1 from by decide]
  grind
theorem vI_rz (k : Nat) : rz (vI k).toInt64 = nI (k + 1) := by rw [rz_t, vI_h]
theorem fin_vI : (List.range 200).all (fun k => decide (nI 99 < vI k ↔ k = 199)) = true := by decide +kernel
theorem vI_gt {k : Nat} (h : k < 200) : nI 99 < vI k ↔ k = 199 := of_decide_eq_true (List.all_eq_true.mp fin_vI k (List.mem_range.mpr h))
def mS (P : Nat → Bool) : Nat → Nat × Int32 × Int32
  | 0 => (0, -(nI 5), -(nI 5))
  | k + 1 => if P k = true then ((mS P k).1 + 1, (if (mS P k).1 = 0 then nI (k + 1) else (mS P k).2.1), nI (k + 1)) else mS P k
def fS (P : Nat → Bool) : Nat → Nat × Int32
  | 0 => (0, nI 0)
  | k + 1 => if P k = true then ((fS P k).1 + 1, (if (fS P k).1 = 0 then nI (k + 1) else (fS P k).2)) else fS P k
theorem mS_le (P : Nat → Bool) : ∀ k, (mS P k).1 ≤ k
  | 0 => Nat.le_refl _
  | k + 1 => by
    have := mS_le P k
    rw [mS]
    split
    · exact Nat.succ_le_succ this
    · omega
theorem fS_le (P : Nat → Bool) : ∀ k, (fS P k).1 ≤ k
  | 0 => Nat.le_refl _
  | k + 1 => by
    have := fS_le P k
    rw [fS]
    split
    · exact Nat.succ_le_succ this
    · omega
theorem mS_congr {P P' : Nat → Bool} : ∀ k, (∀ j, j < k → P j = P' j) → mS P k = mS P' k
  | 0, _ => rfl
  | k + 1, h => by rw [mS, mS, mS_congr k (fun j hj => h j (by omega)), h k (by omega)]
theorem fS_congr {P P' : Nat → Bool} : ∀ k, (∀ j, j < k → P j = P' j) → fS P k = fS P' k
  | 0, _ => rfl
  | k + 1, h => by rw [fS, fS, fS_congr k (fun j hj => h j (by omega)), h k (by omega)]
theorem fS_no {P : Nat → Bool} : ∀ k, (∀ j, j < k → P j = false) → fS P k = (0, nI 0)
  | 0, _ => rfl
  | k + 1, h => by rw [fS, h k (by omega), fS_no k (fun j hj => h j (by omega))]; rfl
def mayP (E : Nat → Int64) (n p k : Nat) : Bool := decide (amI (up E p (vI k).toInt64) n n 0 = none)
def fitP (E : Nat → Int64) (n : Nat) (r : Nat → Nat → Int32) (m p k : Nat) : Bool := (List.range m).all (fun l => mnB n (r l 0) (r l 1) && decide (mnr (up E p (vI k).toInt64) (r l 0).toNatClampNeg (r l 1).toNatClampNeg = (r l 2).toInt64))
def pick3 (w : Int32) (p : Nat × Int32 × Int32) : Int32 := if w = nI 0 then nI p.1 else if w = nI 1 then p.2.1 else p.2.2
def oMay (s : St) (x w : Int32) : Int32 × St := (if spB s.c.n x = true ∧ rgB (nI 0) (nI 2) w = true then pick3 w (mS (mayP s.c.E s.c.n (cel x)) 199) else -(nI 1), s)
def oFits (s : St) (x w : Int32) : Int32 × St := (if spB s.c.n x = true ∧ o01 w = true then (if w = nI 0 then nI (fS (fitP s.c.E s.c.n (s.c.r 3) (s.c.m 3) (cel x)) 199).1 else (fS (fitP s.c.E s.c.n (s.c.r 3) (s.c.m 3) (cel x)) 199).2) else -(nI 1), s)
theorem up_E {n : Nat} {E E' : Nat → Int64} (h : ∀ i j, i < n → j < n → E (4 * i + j) = E' (4 * i + j)) (p : Nat) (v : Int64) : ∀ i j, i < n → j < n → up E p v (4 * i + j) = up E' p v (4 * i + j) := fun i j hi hj => by
  by_cases e : 4 * i + j = p
  · rw [e, up_s, up_s]
  · rw [up_n e, up_n e]; exact h i j hi hj
theorem up_n3 (B : Nat → Nat → Int64) (W U f W' U' : Nat → Int64) : up (up (up (up (up B 36 W) 37 U) 5 f) 36 W') 37 U' = up (up (up B 36 W') 37 U') 5 f := by
  rw [up_comm (up (up B 36 W) 37 U) f W' (show (5 : Nat) ≠ 36 by decide), up_comm _ f U' (show (5 : Nat) ≠ 37 by decide), up_comm (up B 36 W) U W' (show (37 : Nat) ≠ 36 by decide), up_up, up_up]
theorem VV.inc1 {d u pc i nx z : Nat} {c : Int} {sw : List (Nat × Nat)} {L : Lc} {r : List Value} {h : Hp} {Q : Option Value → Hp → Prop} {k : Nat} (e : codeAt u pc = some (.iinc i c, nx, i, false, (1, z) :: sw)) (hl : nth L i = some (some (.int (vI k)))) (hk : okSt L i = true) (g : VV d u nx (st1 L i (.int (vI (k + 1)))) r h Q) : VV d u pc L r h Q := by
  rw [← vI_1] at g
  refine VV.s ?_ g
  simp only [stp, e, kindI, stepI, s_inc, hl, ci, hk, cond_true]
section XF
variable {S : Cl} {τ : Nat → Int32} {A : Nat → Nat → Int32} {B : Nat → Nat → Int64}
variable {d n : Nat} {Q : Option Value → Hp → Prop}
theorem cx_minorWith (hn : τ (100 * 3 + 2) = nI n) (h4 : n ≤ 4) {i j R C : Nat} (hi : i < n) (hj : j < n) (hR : R < 2 ^ n) (hC : C < 2 ^ n) (hp : pop4 R = pop4 C) {v : Int32} {f0 : Nat → Int64} (q : ∀ f, Q (some (.long (mnr (up (B 4) (4 * i + j) v.toInt64) R C))) (HH S τ A (up B 5 f))) : CC (d + 3) M_T_minorWith [.ref 1, .int (nI (10 * i + j)), .int v, .int (nI R), .int (nI C)] (HH S τ A (up B 5 f0)) Q := by
  refine CC.of rfl ?_
  repeat refine VV.s rfl ?_
  (refine VV.c rfl ?_; refine c_atSpot (g := 3) rfl hn h4 hi hj ?_)
  repeat refine VV.s rfl ?_
  (refine VV.c rfl ?_; refine c_putSpot (g := 3) rfl hn h4 hi hj ?_)
  repeat refine VV.s rfl ?_
  rw [show up (up B 5 f0) (3 + 1) (up (up B 5 f0 (3 + 1)) (4 * i + j) v.toInt64) = up (up B 4 (up (B 4) (4 * i + j) v.toInt64)) 5 f0 from up_comm B f0 (up (B 4) (4 * i + j) v.toInt64) (show (5 : Nat) ≠ 4 by decide)]
  (refine VV.c rfl ?_; refine c_detP (g := 3) rfl hn h4 hR hC hp (fun f => ?_))
  repeat refine VV.s rfl ?_
  (refine VV.c rfl ?_; refine c_putSpot (g := 3) rfl hn h4 hi hj ?_)
  have e : up (up (up B 4 (up (B 4) (4 * i + j) v.toInt64)) (3 + 2) f) (3 + 1) (up (up (up B 4 (up (B 4) (4 * i + j) v.toInt64)) (3 + 2) f (3 + 1)) (4 * i + j) (up B 5 f0 (3 + 1) (4 * i + j))) = up B 5 f := by
    show up (up (up B 4 (up (B 4) (4 * i + j) v.toInt64)) 5 f) 4 (up (up (B 4) (4 * i + j) v.toInt64) (4 * i + j) (B 4 (4 * i + j))) = up B 5 f
    rw [up_up, up_id, up_comm _ _ _ (show (5 : Nat) ≠ 4 by decide), up_up, up_id]
  rw [e]
  repeat refine VV.s rfl ?_
  exact VV.r rfl (q f)
theorem cx_drawFirst (hn : τ (100 * 3 + 2) = nI n) (h4 : n ≤ 4) {i0 j0 : Nat} (hi0 : i0 < n) (hj0 : j0 < n) (q : ∀ W U f, (∀ k, k < n * n → W k = fmn (up (B 4) (4 * i0 + j0) 0) (k / n) (k % n) ∧ U k = fmn (up (B 4) (4 * i0 + j0) 1) (k / n) (k % n) - fmn (up (B 4) (4 * i0 + j0) 0) (k / n) (k % n)) → Q none (HH S (up τ 3502 (nI (n * n))) A (up (up (up B 36 W) 37 U) 5 f))) : CC (d + 4) M_T_drawFirstMinors [.ref 1, .int (nI (10 * i0 + j0))] (HH S τ A B) Q := by
  have hn16 : n * n ≤ 4 * 4 := Nat.mul_le_mul h4 h4
  refine CC.of rfl ?_
  have inner : ∀ i, i < n → ∀ W U f x3 x4 x5 x6, (∀ k, k < i * n → W k = fmn (up (B 4) (4 * i0 + j0) 0) (k / n) (k % n) ∧ U k = fmn (up (B 4) (4 * i0 + j0) 1) (k / n) (k % n) - fmn (up (B 4) (4 * i0 + j0) 0) (k / n) (k % n)) → (∀ W U f x3 x4 x5 x6, (∀ k, k < (i + 1) * n → W k = fmn (up (B 4) (4 * i0 + j0) 0) (k / n) (k % n) ∧ U k = fmn (up (B 4) (4 * i0 + j0) 1) (k / n) (k % n) - fmn (up (B 4) (4 * i0 + j0) 0) (k / n) (k % n)) → VV (d + 4) M_T_drawFirstMinors 111 [some (.ref 1), some (.int (nI (10 * i0 + j0))), some (.int (nI i)), x3, x4, x5, x6] [] (HH S (up τ 3502 (nI ((i + 1) * n))) A (up (up (up B 36 W) 37 U) 5 f)) Q) → VV (d + 4) M_T_drawFirstMinors 23 [some (.ref 1), some (.int (nI (10 * i0 + j0))), some (.int (nI i)), x3, x4, x5, x6] [] (HH S (up τ 3502 (nI (i * n))) A (up (up (up B 36 W) 37 U) 5 f)) Q := by
    intro i hi W U f x3 x4 x5 x6 hWU fin
    have hin : i * n + n ≤ n * n := by
      have := Nat.mul_le_mul_right n (show i + 1 ≤ n by omega)
      rw [Nat.succ_mul] at this
      omega
    have V := VV.inv (fun j (p : (Nat → Int64) × (Nat → Int64)) => ∀ k, k < i * n + j → p.1 k = fmn (up (B 4) (4 * i0 + j0) 0) (k / n) (k % n) ∧ p.2 k = fmn (up (B 4) (4 * i0 + j0) 1) (k / n) (k % n) - fmn (up (B 4) (4 * i0 + j0) 0) (k / n) (k % n)) (fun j p => ∀ f x4 x5 x6, VV (d + 4) M_T_drawFirstMinors 25 [some (.ref 1), some (.int (nI (10 * i0 + j0))), some (.int (nI i)), some (.int (nI j)), x4, x5, x6] [] (HH S (up τ 3502 (nI (i * n + j))) A (up (up (up B 36 p.1) 37 p.2) 5 f)) Q) n ?_ ?_ n 0 (W, U) (by omega) hWU f x4 x5 x6
    · repeat (first | exact V | refine VV.add rfl ?_ | refine VV.inc rfl rfl rfl ?_ | refine VV.mul rfl ?_ | refine VV.sub rfl (by omega) ?_ | refine VV.shl1 rfl (by omega) ?_ | refine VV.shl rfl ⟨by omega, by omega⟩ ?_ | refine VV.shr rfl ⟨by omega, by omega⟩ ?_ | refine VV.and rfl ?_ | refine VV.div rfl ⟨by omega, by omega, by omega⟩ ?_ | refine VV.rem rfl ⟨by omega, by omega, by omega⟩ ?_ | refine VV.s rfl ?_  | refine VV.b (b_ltT (by omega) (by omega)) ?_ | refine VV.b (b_ltF (by omega) (by omega)) ?_ | refine VV.b (b_geT (by omega) (by omega)) ?_ | refine VV.b (b_geF (by omega) (by omega)) ?_ | refine VV.b (b_gtT (by omega) (by omega)) ?_ | refine VV.b (b_gtF (by omega) (by omega)) ?_ | refine VV.b (b_leT (by omega) (by omega)) ?_ | refine VV.b (b_leF (by omega) (by omega)) ?_ | refine VV.b (b_eqT (by omega) (by omega)) ?_ | refine VV.b (b_eqF (by omega) (by omega)) ?_ | refine VV.b (b_neT (by omega) (by omega)) ?_ | refine VV.b (b_neF (by omega) (by omega)) ?_)
    · intro j p hj hI nxt f x4 x5 x6
      have e1 : (i * n + j) / n = i := by rw [Nat.mul_comm i n, Nat.mul_add_div (by omega), Nat.div_eq_of_lt hj, Nat.add_zero]
      have e2 : (i * n + j) % n = j := by rw [Nat.mul_comm i n, Nat.mul_add_mod, Nat.mod_eq_of_lt hj]
      have b1 := t_blk h4 hi (show 1 ≤ min i j + 1 by omega) (by omega)
      have b2 := t_blk h4 hj (show 1 ≤ min i j + 1 by omega) (by omega)
      have hn2 : up τ 3502 (nI (i * n + j)) (100 * 3 + 2) = nI n := hn
      have := nxt (up p.1 (i * n + j) (fmn (up (B 4) (4 * i0 + j0) 0) i j), up p.2 (i * n + j) (fmn (up (B 4) (4 * i0 + j0) 1) i j - fmn (up (B 4) (4 * i0 + j0) 0) i j)) (fun k hk => by
        by_cases e : k = i * n + j
        · subst e
          show up p.1 _ _ _ = _ ∧ up p.2 _ _ _ = _
          rw [up_s, up_s, e1, e2]
          exact ⟨rfl, rfl⟩
        · show up p.1 _ _ _ = _ ∧ up p.2 _ _ _ = _
          rw [up_n e, up_n e]
          exact hI k (by omega))
      repeat (first | refine VV.add rfl ?_ | refine VV.inc rfl rfl rfl ?_ | refine VV.mul rfl ?_ | refine VV.sub rfl (by omega) ?_ | refine VV.shl1 rfl (by omega) ?_ | refine VV.shl rfl ⟨by omega, by omega⟩ ?_ | refine VV.shr rfl ⟨by omega, by omega⟩ ?_ | refine VV.and rfl ?_ | refine VV.div rfl ⟨by omega, by omega, by omega⟩ ?_ | refine VV.rem rfl ⟨by omega, by omega, by omega⟩ ?_ | refine VV.s rfl ?_  | refine VV.b (b_ltT (by omega) (by omega)) ?_ | refine VV.b (b_ltF (by omega) (by omega)) ?_ | refine VV.b (b_geT (by omega) (by omega)) ?_ | refine VV.b (b_geF (by omega) (by omega)) ?_ | refine VV.b (b_gtT (by omega) (by omega)) ?_ | refine VV.b (b_gtF (by omega) (by omega)) ?_ | refine VV.b (b_leT (by omega) (by omega)) ?_ | refine VV.b (b_leF (by omega) (by omega)) ?_ | refine VV.b (b_eqT (by omega) (by omega)) ?_ | refine VV.b (b_eqF (by omega) (by omega)) ?_ | refine VV.b (b_neT (by omega) (by omega)) ?_ | refine VV.b (b_neF (by omega) (by omega)) ?_)
      (refine VV.c rfl ?_; refine c_lines (g := 3) rfl hn2 h4 ?_)
      repeat (first | refine VV.mini rfl ⟨by omega, by omega⟩ (Nat.le_of_ble_eq_true rfl) ?_ | refine VV.add rfl ?_ | refine VV.inc rfl rfl rfl ?_ | refine VV.mul rfl ?_ | refine VV.sub rfl (by omega) ?_ | refine VV.shl1 rfl (by omega) ?_ | refine VV.shl rfl ⟨by omega, by omega⟩ ?_ | refine VV.shr rfl ⟨by omega, by omega⟩ ?_ | refine VV.and rfl ?_ | refine VV.div rfl ⟨by omega, by omega, by omega⟩ ?_ | refine VV.rem rfl ⟨by omega, by omega, by omega⟩ ?_ | refine VV.s rfl ?_  | refine VV.b (b_ltT (by omega) (by omega)) ?_ | refine VV.b (b_ltF (by omega) (by omega)) ?_ | refine VV.b (b_geT (by omega) (by omega)) ?_ | refine VV.b (b_geF (by omega) (by omega)) ?_ | refine VV.b (b_gtT (by omega) (by omega)) ?_ | refine VV.b (b_gtF (by omega) (by omega)) ?_ | refine VV.b (b_leT (by omega) (by omega)) ?_ | refine VV.b (b_leF (by omega) (by omega)) ?_ | refine VV.b (b_eqT (by omega) (by omega)) ?_ | refine VV.b (b_eqF (by omega) (by omega)) ?_ | refine VV.b (b_neT (by omega) (by omega)) ?_ | refine VV.b (b_neF (by omega) (by omega)) ?_)
      (refine VV.c rfl ?_; refine c_block (g := 3) (show i < 4 by omega) (show 1 ≤ min i j + 1 by omega) (by omega) ?_)
      repeat (first | refine VV.add rfl ?_ | refine VV.inc rfl rfl rfl ?_ | refine VV.mul rfl ?_ | refine VV.sub rfl (by omega) ?_ | refine VV.shl1 rfl (by omega) ?_ | refine VV.shl rfl ⟨by omega, by omega⟩ ?_ | refine VV.shr rfl ⟨by omega, by omega⟩ ?_ | refine VV.and rfl ?_ | refine VV.div rfl ⟨by omega, by omega, by omega⟩ ?_ | refine VV.rem rfl ⟨by omega, by omega, by omega⟩ ?_ | refine VV.s rfl ?_  | refine VV.b (b_ltT (by omega) (by omega)) ?_ | refine VV.b (b_ltF (by omega) (by omega)) ?_ | refine VV.b (b_geT (by omega) (by omega)) ?_ | refine VV.b (b_geF (by omega) (by omega)) ?_ | refine VV.b (b_gtT (by omega) (by omega)) ?_ | refine VV.b (b_gtF (by omega) (by omega)) ?_ | refine VV.b (b_leT (by omega) (by omega)) ?_ | refine VV.b (b_leF (by omega) (by omega)) ?_ | refine VV.b (b_eqT (by omega) (by omega)) ?_ | refine VV.b (b_eqF (by omega) (by omega)) ?_ | refine VV.b (b_neT (by omega) (by omega)) ?_ | refine VV.b (b_neF (by omega) (by omega)) ?_)
      (refine VV.c rfl ?_; refine c_block (g := 3) (show j < 4 by omega) (show 1 ≤ min i j + 1 by omega) (by omega) ?_)
      repeat (first | refine VV.add rfl ?_ | refine VV.inc rfl rfl rfl ?_ | refine VV.mul rfl ?_ | refine VV.sub rfl (by omega) ?_ | refine VV.shl1 rfl (by omega) ?_ | refine VV.shl rfl ⟨by omega, by omega⟩ ?_ | refine VV.shr rfl ⟨by omega, by omega⟩ ?_ | refine VV.and rfl ?_ | refine VV.div rfl ⟨by omega, by omega, by omega⟩ ?_ | refine VV.rem rfl ⟨by omega, by omega, by omega⟩ ?_ | refine VV.s rfl ?_  | refine VV.b (b_ltT (by omega) (by omega)) ?_ | refine VV.b (b_ltF (by omega) (by omega)) ?_ | refine VV.b (b_geT (by omega) (by omega)) ?_ | refine VV.b (b_geF (by omega) (by omega)) ?_ | refine VV.b (b_gtT (by omega) (by omega)) ?_ | refine VV.b (b_gtF (by omega) (by omega)) ?_ | refine VV.b (b_leT (by omega) (by omega)) ?_ | refine VV.b (b_leF (by omega) (by omega)) ?_ | refine VV.b (b_eqT (by omega) (by omega)) ?_ | refine VV.b (b_eqF (by omega) (by omega)) ?_ | refine VV.b (b_neT (by omega) (by omega)) ?_ | refine VV.b (b_neF (by omega) (by omega)) ?_)
      (refine VV.c rfl ?_; refine cx_minorWith hn2 h4 hi0 hj0 b1.1 b2.1 (b1.2.trans b2.2.symm) (fun f => ?_))
      repeat (first | refine VV.add rfl ?_ | refine VV.inc rfl rfl rfl ?_ | refine VV.mul rfl ?_ | refine VV.sub rfl (by omega) ?_ | refine VV.shl1 rfl (by omega) ?_ | refine VV.shl rfl ⟨by omega, by omega⟩ ?_ | refine VV.shr rfl ⟨by omega, by omega⟩ ?_ | refine VV.and rfl ?_ | refine VV.div rfl ⟨by omega, by omega, by omega⟩ ?_ | refine VV.rem rfl ⟨by omega, by omega, by omega⟩ ?_ | refine VV.s rfl ?_  | refine VV.b (b_ltT (by omega) (by omega)) ?_ | refine VV.b (b_ltF (by omega) (by omega)) ?_ | refine VV.b (b_geT (by omega) (by omega)) ?_ | refine VV.b (b_geF (by omega) (by omega)) ?_ | refine VV.b (b_gtT (by omega) (by omega)) ?_ | refine VV.b (b_gtF (by omega) (by omega)) ?_ | refine VV.b (b_leT (by omega) (by omega)) ?_ | refine VV.b (b_leF (by omega) (by omega)) ?_ | refine VV.b (b_eqT (by omega) (by omega)) ?_ | refine VV.b (b_eqF (by omega) (by omega)) ?_ | refine VV.b (b_neT (by omega) (by omega)) ?_ | refine VV.b (b_neF (by omega) (by omega)) ?_)
      (refine VV.c rfl ?_; refine cx_minorWith hn2 h4 hi0 hj0 b1.1 b2.1 (b1.2.trans b2.2.symm) (fun f => ?_))
      repeat (first | refine VV.add rfl ?_ | refine VV.inc rfl rfl rfl ?_ | refine VV.mul rfl ?_ | refine VV.sub rfl (by omega) ?_ | refine VV.shl1 rfl (by omega) ?_ | refine VV.shl rfl ⟨by omega, by omega⟩ ?_ | refine VV.shr rfl ⟨by omega, by omega⟩ ?_ | refine VV.and rfl ?_ | refine VV.div rfl ⟨by omega, by omega, by omega⟩ ?_ | refine VV.rem rfl ⟨by omega, by omega, by omega⟩ ?_ | refine VV.s rfl ?_  | refine VV.b (b_ltT (by omega) (by omega)) ?_ | refine VV.b (b_ltF (by omega) (by omega)) ?_ | refine VV.b (b_geT (by omega) (by omega)) ?_ | refine VV.b (b_geF (by omega) (by omega)) ?_ | refine VV.b (b_gtT (by omega) (by omega)) ?_ | refine VV.b (b_gtF (by omega) (by omega)) ?_ | refine VV.b (b_leT (by omega) (by omega)) ?_ | refine VV.b (b_leF (by omega) (by omega)) ?_ | refine VV.b (b_eqT (by omega) (by omega)) ?_ | refine VV.b (b_eqF (by omega) (by omega)) ?_ | refine VV.b (b_neT (by omega) (by omega)) ?_ | refine VV.b (b_neF (by omega) (by omega)) ?_)
      (refine VV.c rfl ?_; refine cs_add (m := i * n + j) (up_s _ _ _) (by omega) ?_)
      rw [up_up, up_n3]
      have := this f (some (.int (nI (min i j + 1)))) (some (.int (nI (blk i (min i j + 1))))) (some (.int (nI (blk j (min i j + 1)))))
      repeat (first | exact this | refine VV.add rfl ?_ | refine VV.inc rfl rfl rfl ?_ | refine VV.mul rfl ?_ | refine VV.sub rfl (by omega) ?_ | refine VV.shl1 rfl (by omega) ?_ | refine VV.shl rfl ⟨by omega, by omega⟩ ?_ | refine VV.shr rfl ⟨by omega, by omega⟩ ?_ | refine VV.and rfl ?_ | refine VV.div rfl ⟨by omega, by omega, by omega⟩ ?_ | refine VV.rem rfl ⟨by omega, by omega, by omega⟩ ?_ | refine VV.s rfl ?_  | refine VV.b (b_ltT (by omega) (by omega)) ?_ | refine VV.b (b_ltF (by omega) (by omega)) ?_ | refine VV.b (b_geT (by omega) (by omega)) ?_ | refine VV.b (b_geF (by omega) (by omega)) ?_ | refine VV.b (b_gtT (by omega) (by omega)) ?_ | refine VV.b (b_gtF (by omega) (by omega)) ?_ | refine VV.b (b_leT (by omega) (by omega)) ?_ | refine VV.b (b_leF (by omega) (by omega)) ?_ | refine VV.b (b_eqT (by omega) (by omega)) ?_ | refine VV.b (b_eqF (by omega) (by omega)) ?_ | refine VV.b (b_neT (by omega) (by omega)) ?_ | refine VV.b (b_neF (by omega) (by omega)) ?_)
    · intro p hI f x4 x5 x6
      have hn2 : up τ 3502 (nI (i * n + n)) (100 * 3 + 2) = nI n := hn
      rw [Nat.succ_mul] at fin
      have := fin p.1 p.2 f (some (.int (nI n))) x4 x5 x6 hI
      repeat (first | refine VV.add rfl ?_ | refine VV.inc rfl rfl rfl ?_ | refine VV.mul rfl ?_ | refine VV.sub rfl (by omega) ?_ | refine VV.shl1 rfl (by omega) ?_ | refine VV.shl rfl ⟨by omega, by omega⟩ ?_ | refine VV.shr rfl ⟨by omega, by omega⟩ ?_ | refine VV.and rfl ?_ | refine VV.div rfl ⟨by omega, by omega, by omega⟩ ?_ | refine VV.rem rfl ⟨by omega, by omega, by omega⟩ ?_ | refine VV.s rfl ?_  | refine VV.b (b_ltT (by omega) (by omega)) ?_ | refine VV.b (b_ltF (by omega) (by omega)) ?_ | refine VV.b (b_geT (by omega) (by omega)) ?_ | refine VV.b (b_geF (by omega) (by omega)) ?_ | refine VV.b (b_gtT (by omega) (by omega)) ?_ | refine VV.b (b_gtF (by omega) (by omega)) ?_ | refine VV.b (b_leT (by omega) (by omega)) ?_ | refine VV.b (b_leF (by omega) (by omega)) ?_ | refine VV.b (b_eqT (by omega) (by omega)) ?_ | refine VV.b (b_eqF (by omega) (by omega)) ?_ | refine VV.b (b_neT (by omega) (by omega)) ?_ | refine VV.b (b_neF (by omega) (by omega)) ?_)
      (refine VV.c rfl ?_; refine c_lines (g := 3) rfl hn2 h4 ?_)
      repeat (first | exact this | refine VV.add rfl ?_ | refine VV.inc rfl rfl rfl ?_ | refine VV.mul rfl ?_ | refine VV.sub rfl (by omega) ?_ | refine VV.shl1 rfl (by omega) ?_ | refine VV.shl rfl ⟨by omega, by omega⟩ ?_ | refine VV.shr rfl ⟨by omega, by omega⟩ ?_ | refine VV.and rfl ?_ | refine VV.div rfl ⟨by omega, by omega, by omega⟩ ?_ | refine VV.rem rfl ⟨by omega, by omega, by omega⟩ ?_ | refine VV.s rfl ?_  | refine VV.b (b_ltT (by omega) (by omega)) ?_ | refine VV.b (b_ltF (by omega) (by omega)) ?_ | refine VV.b (b_geT (by omega) (by omega)) ?_ | refine VV.b (b_geF (by omega) (by omega)) ?_ | refine VV.b (b_gtT (by omega) (by omega)) ?_ | refine VV.b (b_gtF (by omega) (by omega)) ?_ | refine VV.b (b_leT (by omega) (by omega)) ?_ | refine VV.b (b_leF (by omega) (by omega)) ?_ | refine VV.b (b_eqT (by omega) (by omega)) ?_ | refine VV.b (b_eqF (by omega) (by omega)) ?_ | refine VV.b (b_neT (by omega) (by omega)) ?_ | refine VV.b (b_neF (by omega) (by omega)) ?_)
  have V := VV.inv (fun i (p : (Nat → Int64) × (Nat → Int64)) => ∀ k, k < i * n → p.1 k = fmn (up (B 4) (4 * i0 + j0) 0) (k / n) (k % n) ∧ p.2 k = fmn (up (B 4) (4 * i0 + j0) 1) (k / n) (k % n) - fmn (up (B 4) (4 * i0 + j0) 0) (k / n) (k % n)) (fun i p => ∀ f x3 x4 x5 x6, VV (d + 4) M_T_drawFirstMinors 9 [some (.ref 1), some (.int (nI (10 * i0 + j0))), some (.int (nI i)), x3, x4, x5, x6] [] (HH S (up τ 3502 (nI (i * n))) A (up (up (up B 36 p.1) 37 p.2) 5 f)) Q) n ?_ ?_ n 0 (B 36, B 37) (by omega) (fun k hk => absurd hk (by omega)) (B 5) none none none none
  · rw [Nat.zero_mul, up_id, up_id, up_id] at V
    repeat refine VV.s rfl ?_
    (refine VV.c rfl ?_; refine cs_empty ?_)
    repeat (first | exact V | refine VV.add rfl ?_ | refine VV.inc rfl rfl rfl ?_ | refine VV.mul rfl ?_ | refine VV.sub rfl (by omega) ?_ | refine VV.shl1 rfl (by omega) ?_ | refine VV.shl rfl ⟨by omega, by omega⟩ ?_ | refine VV.shr rfl ⟨by omega, by omega⟩ ?_ | refine VV.and rfl ?_ | refine VV.div rfl ⟨by omega, by omega, by omega⟩ ?_ | refine VV.rem rfl ⟨by omega, by omega, by omega⟩ ?_ | refine VV.s rfl ?_  | refine VV.b (b_ltT (by omega) (by omega)) ?_ | refine VV.b (b_ltF (by omega) (by omega)) ?_ | refine VV.b (b_geT (by omega) (by omega)) ?_ | refine VV.b (b_geF (by omega) (by omega)) ?_ | refine VV.b (b_gtT (by omega) (by omega)) ?_ | refine VV.b (b_gtF (by omega) (by omega)) ?_ | refine VV.b (b_leT (by omega) (by omega)) ?_ | refine VV.b (b_leF (by omega) (by omega)) ?_ | refine VV.b (b_eqT (by omega) (by omega)) ?_ | refine VV.b (b_eqF (by omega) (by omega)) ?_ | refine VV.b (b_neT (by omega) (by omega)) ?_ | refine VV.b (b_neF (by omega) (by omega)) ?_)
  · intro i p hi hI nxt f x3 x4 x5 x6
    have hn2 : up τ 3502 (nI (i * n)) (100 * 3 + 2) = nI n := hn
    have := inner i hi p.1 p.2 f x3 x4 x5 x6 hI (fun W U f x3 x4 x5 x6 hWU => by
      have := nxt (W, U) hWU f x3 x4 x5 x6
      repeat (first | exact this | refine VV.add rfl ?_ | refine VV.inc rfl rfl rfl ?_ | refine VV.mul rfl ?_ | refine VV.sub rfl (by omega) ?_ | refine VV.shl1 rfl (by omega) ?_ | refine VV.shl rfl ⟨by omega, by omega⟩ ?_ | refine VV.shr rfl ⟨by omega, by omega⟩ ?_ | refine VV.and rfl ?_ | refine VV.div rfl ⟨by omega, by omega, by omega⟩ ?_ | refine VV.rem rfl ⟨by omega, by omega, by omega⟩ ?_ | refine VV.s rfl ?_  | refine VV.b (b_ltT (by omega) (by omega)) ?_ | refine VV.b (b_ltF (by omega) (by omega)) ?_ | refine VV.b (b_geT (by omega) (by omega)) ?_ | refine VV.b (b_geF (by omega) (by omega)) ?_ | refine VV.b (b_gtT (by omega) (by omega)) ?_ | refine VV.b (b_gtF (by omega) (by omega)) ?_ | refine VV.b (b_leT (by omega) (by omega)) ?_ | refine VV.b (b_leF (by omega) (by omega)) ?_ | refine VV.b (b_eqT (by omega) (by omega)) ?_ | refine VV.b (b_eqF (by omega) (by omega)) ?_ | refine VV.b (b_neT (by omega) (by omega)) ?_ | refine VV.b (b_neF (by omega) (by omega)) ?_))
    repeat (first | refine VV.add rfl ?_ | refine VV.inc rfl rfl rfl ?_ | refine VV.mul rfl ?_ | refine VV.sub rfl (by omega) ?_ | refine VV.shl1 rfl (by omega) ?_ | refine VV.shl rfl ⟨by omega, by omega⟩ ?_ | refine VV.shr rfl ⟨by omega, by omega⟩ ?_ | refine VV.and rfl ?_ | refine VV.div rfl ⟨by omega, by omega, by omega⟩ ?_ | refine VV.rem rfl ⟨by omega, by omega, by omega⟩ ?_ | refine VV.s rfl ?_  | refine VV.b (b_ltT (by omega) (by omega)) ?_ | refine VV.b (b_ltF (by omega) (by omega)) ?_ | refine VV.b (b_geT (by omega) (by omega)) ?_ | refine VV.b (b_geF (by omega) (by omega)) ?_ | refine VV.b (b_gtT (by omega) (by omega)) ?_ | refine VV.b (b_gtF (by omega) (by omega)) ?_ | refine VV.b (b_leT (by omega) (by omega)) ?_ | refine VV.b (b_leF (by omega) (by omega)) ?_ | refine VV.b (b_eqT (by omega) (by omega)) ?_ | refine VV.b (b_eqF (by omega) (by omega)) ?_ | refine VV.b (b_neT (by omega) (by omega)) ?_ | refine VV.b (b_neF (by omega) (by omega)) ?_)
    (refine VV.c rfl ?_; refine c_lines (g := 3) rfl hn2 h4 ?_)
    repeat (first | exact this | refine VV.add rfl ?_ | refine VV.inc rfl rfl rfl ?_ | refine VV.mul rfl ?_ | refine VV.sub rfl (by omega) ?_ | refine VV.shl1 rfl (by omega) ?_ | refine VV.shl rfl ⟨by omega, by omega⟩ ?_ | refine VV.shr rfl ⟨by omega, by omega⟩ ?_ | refine VV.and rfl ?_ | refine VV.div rfl ⟨by omega, by omega, by omega⟩ ?_ | refine VV.rem rfl ⟨by omega, by omega, by omega⟩ ?_ | refine VV.s rfl ?_  | refine VV.b (b_ltT (by omega) (by omega)) ?_ | refine VV.b (b_ltF (by omega) (by omega)) ?_ | refine VV.b (b_geT (by omega) (by omega)) ?_ | refine VV.b (b_geF (by omega) (by omega)) ?_ | refine VV.b (b_gtT (by omega) (by omega)) ?_ | refine VV.b (b_gtF (by omega) (by omega)) ?_ | refine VV.b (b_leT (by omega) (by omega)) ?_ | refine VV.b (b_leF (by omega) (by omega)) ?_ | refine VV.b (b_eqT (by omega) (by omega)) ?_ | refine VV.b (b_eqF (by omega) (by omega)) ?_ | refine VV.b (b_neT (by omega) (by omega)) ?_ | refine VV.b (b_neF (by omega) (by omega)) ?_)
  · intro p hI f x3 x4 x5 x6
    have hn2 : up τ 3502 (nI (n * n)) (100 * 3 + 2) = nI n := hn
    have := q p.1 p.2 f hI
    repeat (first | refine VV.add rfl ?_ | refine VV.inc rfl rfl rfl ?_ | refine VV.mul rfl ?_ | refine VV.sub rfl (by omega) ?_ | refine VV.shl1 rfl (by omega) ?_ | refine VV.shl rfl ⟨by omega, by omega⟩ ?_ | refine VV.shr rfl ⟨by omega, by omega⟩ ?_ | refine VV.and rfl ?_ | refine VV.div rfl ⟨by omega, by omega, by omega⟩ ?_ | refine VV.rem rfl ⟨by omega, by omega, by omega⟩ ?_ | refine VV.s rfl ?_  | refine VV.b (b_ltT (by omega) (by omega)) ?_ | refine VV.b (b_ltF (by omega) (by omega)) ?_ | refine VV.b (b_geT (by omega) (by omega)) ?_ | refine VV.b (b_geF (by omega) (by omega)) ?_ | refine VV.b (b_gtT (by omega) (by omega)) ?_ | refine VV.b (b_gtF (by omega) (by omega)) ?_ | refine VV.b (b_leT (by omega) (by omega)) ?_ | refine VV.b (b_leF (by omega) (by omega)) ?_ | refine VV.b (b_eqT (by omega) (by omega)) ?_ | refine VV.b (b_eqF (by omega) (by omega)) ?_ | refine VV.b (b_neT (by omega) (by omega)) ?_ | refine VV.b (b_neF (by omega) (by omega)) ?_)
    (refine VV.c rfl ?_; refine c_lines (g := 3) rfl hn2 h4 ?_)
    repeat (first | refine VV.add rfl ?_ | refine VV.inc rfl rfl rfl ?_ | refine VV.mul rfl ?_ | refine VV.sub rfl (by omega) ?_ | refine VV.shl1 rfl (by omega) ?_ | refine VV.shl rfl ⟨by omega, by omega⟩ ?_ | refine VV.shr rfl ⟨by omega, by omega⟩ ?_ | refine VV.and rfl ?_ | refine VV.div rfl ⟨by omega, by omega, by omega⟩ ?_ | refine VV.rem rfl ⟨by omega, by omega, by omega⟩ ?_ | refine VV.s rfl ?_  | refine VV.b (b_ltT (by omega) (by omega)) ?_ | refine VV.b (b_ltF (by omega) (by omega)) ?_ | refine VV.b (b_geT (by omega) (by omega)) ?_ | refine VV.b (b_geF (by omega) (by omega)) ?_ | refine VV.b (b_gtT (by omega) (by omega)) ?_ | refine VV.b (b_gtF (by omega) (by omega)) ?_ | refine VV.b (b_leT (by omega) (by omega)) ?_ | refine VV.b (b_leF (by omega) (by omega)) ?_ | refine VV.b (b_eqT (by omega) (by omega)) ?_ | refine VV.b (b_eqF (by omega) (by omega)) ?_ | refine VV.b (b_neT (by omega) (by omega)) ?_ | refine VV.b (b_neF (by omega) (by omega)) ?_)
    exact VV.r rfl this
end XF
