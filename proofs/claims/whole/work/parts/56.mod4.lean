/-! the reference's calls: unlike ones, factors, may, fits -/
theorem mS_ls (P : Nat → Bool) : ∀ k, k < 1000 → ((mS P k).1 = 0 ∧ (mS P k).2.1 = -(nI 5)) ∨ ((mS P k).1 ≠ 0 ∧ ∃ j, j < 2000 ∧ (mS P k).2.1 = nI j)
  | 0, _ => Or.inl ⟨rfl, rfl⟩
  | k + 1, hk => by
    have ih := mS_ls P k (by omega)
    rw [mS]
    by_cases c : P k = true
    · rw [if_pos c]
      refine Or.inr ⟨by show (mS P k).1 + 1 ≠ 0; omega, ?_⟩
      show ∃ j, j < 2000 ∧ (if (mS P k).1 = 0 then nI (k + 1) else (mS P k).2.1) = nI j
      rcases ih with ⟨h1, _⟩ | ⟨h1, j, hj, h2⟩
      · rw [if_pos h1]; exact ⟨k + 1, by omega, rfl⟩
      · rw [if_neg h1]; exact ⟨j, hj, h2⟩
    · rw [if_neg c]; exact ih
theorem nI_n5 {j : Nat} (h : j < 2000) : nI j ≠ -(nI 5) := by
  intro z
  have h3 : ¬ nI j < nI 0 := fun z => absurd ((nI_ltI (by omega) (by omega)).mp z) (by omega)
  exact h3 (by rw [z]; decide)
theorem fin_vb : (List.range 199).all (fun k => decide (-99 ≤ (vI k).toInt ∧ (vI k).toInt ≤ 99)) = true := by decide +kernel
theorem vI_bd {k : Nat} (h : k < 199) : bd (vI k).toInt64 99 := by
  unfold bd
  rw [Int32.toInt_toInt64]
  exact of_decide_eq_true (List.all_eq_true.mp fin_vb k (List.mem_range.mpr h))
theorem up_b {n : Nat} {E : Nat → Int64} {p : Nat} {v : Int64} (h : ∀ i j, i < n → j < n → bd (E (4 * i + j)) 99) (hv : bd v 99) : ∀ i j, i < n → j < n → bd (up E p v (4 * i + j)) 99 := fun i j hi hj => by
  by_cases e : 4 * i + j = p
  · rw [e, up_s]; exact hv
  · rw [up_n e]; exact h i j hi hj
/-- a table turned over -/
def trE (E : Nat → Int64) (p : Nat) : Int64 := E (4 * (p % 4) + p / 4)
theorem edg_tr (E : Nat → Int64) {a o : Nat} (h : a + o ≤ 4) : edg (trE E) a o false = edg E a o true := by
  unfold edg
  rw [if_neg (by decide), if_pos rfl]
  rcases (show o = 0 ∨ o = 1 ∨ o = 2 ∨ o = 3 ∨ o = 4 by omega) with rfl | rfl | rfl | rfl | rfl
  · rw [show 2 ^ 0 - 1 = 0 from rfl, Nat.zero_mul]; rfl
  · rcases (show a = 0 ∨ a = 1 ∨ a = 2 ∨ a = 3 by omega) with rfl | rfl | rfl | rfl <;> simp [mnr, dL, mz, lowb, trE]
  · rcases (show a = 0 ∨ a = 1 ∨ a = 2 by omega) with rfl | rfl | rfl <;> simp [mnr, dL, mz, lowb, trE] <;> grind
  · rcases (show a = 0 ∨ a = 1 by omega) with rfl | rfl <;> simp [mnr, dL, mz, lowb, trE] <;> grind
  · rcases (show a = 0 by omega) with rfl
    simp [mnr, dL, mz, lowb, trE]
    grind
section MG
variable {S : Cl} {τ : Nat → Int32} {A : Nat → Nat → Int32} {B : Nat → Nat → Int64}
variable {d n : Nat} {Q : Option Value → Hp → Prop}
theorem cm_lies {a : Nat} (ha : (lkp tabI a).isSome = true) (hla : lenI a = 16) {E : Nat → Int64} (h4 : n ≤ 4) (hE : ∀ i j, i < n → j < n → (A a (4 * i + j)).toInt64 = E (4 * i + j)) (r o : Nat) (ho : 1 ≤ o) (hr : r + o ≤ n) (q : Q (some (.long (edg E r o false))) (HH S τ A B)) : CC (d + 5) M_M_lies [.ref a, .int (nI r), .int (nI (r + o - 1)), .int (nI (o - 1))] (HH S τ A B) Q := by
  obtain ⟨h1, h2, _⟩ := t_edg n (by omega) r (by omega) o (by omega) hr
  have e1 : blk (r + o - 1) o = (2 ^ o - 1) * 2 ^ r := by unfold blk; rw [show r + o - 1 + 1 - o = r by omega]
  have e2 : blk (o - 1) o = 2 ^ o - 1 := by unfold blk; rw [show o - 1 + 1 - o = 0 by omega]; omega
  unfold edg at q
  rw [if_neg (by decide)] at q
  refine CC.of rfl ?_
  repeat (first | refine VV.add rfl ?_ | refine VV.inc rfl rfl rfl ?_ | refine VV.mul rfl ?_ | refine VV.sub rfl (by omega) ?_ | refine VV.shl1 rfl (by omega) ?_ | refine VV.shl rfl ⟨by omega, by omega⟩ ?_ | refine VV.shr rfl ⟨by omega, by omega⟩ ?_ | refine VV.and rfl ?_ | refine VV.div rfl ⟨by omega, by omega, by omega⟩ ?_ | refine VV.rem rfl ⟨by omega, by omega, by omega⟩ ?_ | refine VV.s rfl ?_  | refine VV.b (b_ltT (by omega) (by omega)) ?_ | refine VV.b (b_ltF (by omega) (by omega)) ?_ | refine VV.b (b_geT (by omega) (by omega)) ?_ | refine VV.b (b_geF (by omega) (by omega)) ?_ | refine VV.b (b_gtT (by omega) (by omega)) ?_ | refine VV.b (b_gtF (by omega) (by omega)) ?_ | refine VV.b (b_leT (by omega) (by omega)) ?_ | refine VV.b (b_leF (by omega) (by omega)) ?_ | refine VV.b (b_eqT (by omega) (by omega)) ?_ | refine VV.b (b_eqF (by omega) (by omega)) ?_ | refine VV.b (b_neT (by omega) (by omega)) ?_ | refine VV.b (b_neF (by omega) (by omega)) ?_)
  rw [show r + o - 1 - r + 1 = o by omega]
  (refine VV.c rfl ?_; refine cm_run (show r + o - 1 < 4 by omega) ho (by omega) ?_)
  repeat (first | refine VV.add rfl ?_ | refine VV.inc rfl rfl rfl ?_ | refine VV.mul rfl ?_ | refine VV.sub rfl (by omega) ?_ | refine VV.shl1 rfl (by omega) ?_ | refine VV.shl rfl ⟨by omega, by omega⟩ ?_ | refine VV.shr rfl ⟨by omega, by omega⟩ ?_ | refine VV.and rfl ?_ | refine VV.div rfl ⟨by omega, by omega, by omega⟩ ?_ | refine VV.rem rfl ⟨by omega, by omega, by omega⟩ ?_ | refine VV.s rfl ?_  | refine VV.b (b_ltT (by omega) (by omega)) ?_ | refine VV.b (b_ltF (by omega) (by omega)) ?_ | refine VV.b (b_geT (by omega) (by omega)) ?_ | refine VV.b (b_geF (by omega) (by omega)) ?_ | refine VV.b (b_gtT (by omega) (by omega)) ?_ | refine VV.b (b_gtF (by omega) (by omega)) ?_ | refine VV.b (b_leT (by omega) (by omega)) ?_ | refine VV.b (b_leF (by omega) (by omega)) ?_ | refine VV.b (b_eqT (by omega) (by omega)) ?_ | refine VV.b (b_eqF (by omega) (by omega)) ?_ | refine VV.b (b_neT (by omega) (by omega)) ?_ | refine VV.b (b_neF (by omega) (by omega)) ?_)
  rw [show o - 1 + 1 = o by omega]
  (refine VV.c rfl ?_; refine cm_run (show o - 1 < 4 by omega) ho (by omega) ?_)
  rw [e1, e2]
  (refine VV.c rfl ?_; refine cm_det ha hla h4 hE h1 h2 ?_)
  exact VV.r rfl q
theorem cm_lies0 {a r : Nat} {x y : Int32} (hx : x < nI r) {h : Hp} (q : Q (some (.long 1)) h) : CC d M_M_lies [.ref a, .int (nI r), .int x, .int y] h Q := by
  refine CC.of rfl ?_
  refine VV.s rfl ?_
  refine VV.s rfl ?_
  refine VV.s rfl ?_
  refine VV.t hx ?_
  repeat refine VV.s rfl ?_
  exact VV.r rfl q
theorem cm_factorOf {a : Nat} (ha : (lkp tabI a).isSome = true) (hla : lenI a = 16) {E : Nat → Int64} (h4 : n ≤ 4) (hE : ∀ i j, i < n → j < n → (A a (4 * i + j)).toInt64 = E (4 * i + j)) {i j : Nat} (hi : i < n) (hj : j ≤ i) (hd : i = j → (edg E 0 (i + 1) false).toInt.natAbs < 2 ^ 63 ∧ (edg E 0 i false).toInt.natAbs < 2 ^ 48 ∧ (edg E 0 i false).toInt.natAbs ≠ 0) (hf : j < i → (edg E (i - j) (j + 1) false * edg E (i - j - 1) j false).toInt.natAbs < 2 ^ 63 ∧ (edg E (i - j) j false * edg E (i - j - 1) (j + 1) false).toInt.natAbs < 2 ^ 48 ∧ (edg E (i - j) j false * edg E (i - j - 1) (j + 1) false).toInt.natAbs ≠ 0) {p : Int32} (q : Q (some (.long (if i = j then lowT (edg E 0 (i + 1) false) (edg E 0 i false) p else lowT (edg E (i - j) (j + 1) false * edg E (i - j - 1) j false) (edg E (i - j) j false * edg E (i - j - 1) (j + 1) false) p))) (HH S τ A B)) : CC (d + 6) M_M_factorOf [.ref 58, .ref a, .int (nI i), .int (nI j), .int p] (HH S τ A B) Q := by
  have e0 : ∀ r, edg E r 0 false = 1 := fun r => by unfold edg; rw [if_neg (by decide), show 2 ^ 0 - 1 = 0 from rfl, Nat.zero_mul]; rfl
  refine CC.of rfl ?_
  by_cases c : i = j
  · subst c
    rw [if_pos rfl] at q
    have bb := hd rfl
    have L1 := fun Q (q : Q _ _) => cm_lies (S := S) (τ := τ) (B := B) (d := d) (Q := Q) ha hla h4 hE 0 (i + 1) (by omega) (by omega) q
    rw [show 0 + (i + 1) - 1 = i by omega, show i + 1 - 1 = i by omega] at L1
    repeat (first | refine VV.add rfl ?_ | refine VV.inc rfl rfl rfl ?_ | refine VV.mul rfl ?_ | refine VV.sub rfl (by omega) ?_ | refine VV.shl1 rfl (by omega) ?_ | refine VV.shl rfl ⟨by omega, by omega⟩ ?_ | refine VV.shr rfl ⟨by omega, by omega⟩ ?_ | refine VV.and rfl ?_ | refine VV.div rfl ⟨by omega, by omega, by omega⟩ ?_ | refine VV.rem rfl ⟨by omega, by omega, by omega⟩ ?_ | refine VV.s rfl ?_  | refine VV.b (b_ltT (by omega) (by omega)) ?_ | refine VV.b (b_ltF (by omega) (by omega)) ?_ | refine VV.b (b_geT (by omega) (by omega)) ?_ | refine VV.b (b_geF (by omega) (by omega)) ?_ | refine VV.b (b_gtT (by omega) (by omega)) ?_ | refine VV.b (b_gtF (by omega) (by omega)) ?_ | refine VV.b (b_leT (by omega) (by omega)) ?_ | refine VV.b (b_leF (by omega) (by omega)) ?_ | refine VV.b (b_eqT (by omega) (by omega)) ?_ | refine VV.b (b_eqF (by omega) (by omega)) ?_ | refine VV.b (b_neT (by omega) (by omega)) ?_ | refine VV.b (b_neF (by omega) (by omega)) ?_)
    (refine VV.c rfl ?_; refine L1 _ ?_)
    by_cases c0 : i = 0
    · subst c0
      rw [e0] at q bb
      repeat (first | refine VV.add rfl ?_ | refine VV.inc rfl rfl rfl ?_ | refine VV.mul rfl ?_ | refine VV.sub rfl (by omega) ?_ | refine VV.shl1 rfl (by omega) ?_ | refine VV.shl rfl ⟨by omega, by omega⟩ ?_ | refine VV.shr rfl ⟨by omega, by omega⟩ ?_ | refine VV.and rfl ?_ | refine VV.div rfl ⟨by omega, by omega, by omega⟩ ?_ | refine VV.rem rfl ⟨by omega, by omega, by omega⟩ ?_ | refine VV.s rfl ?_  | refine VV.b (b_ltT (by omega) (by omega)) ?_ | refine VV.b (b_ltF (by omega) (by omega)) ?_ | refine VV.b (b_geT (by omega) (by omega)) ?_ | refine VV.b (b_geF (by omega) (by omega)) ?_ | refine VV.b (b_gtT (by omega) (by omega)) ?_ | refine VV.b (b_gtF (by omega) (by omega)) ?_ | refine VV.b (b_leT (by omega) (by omega)) ?_ | refine VV.b (b_leF (by omega) (by omega)) ?_ | refine VV.b (b_eqT (by omega) (by omega)) ?_ | refine VV.b (b_eqF (by omega) (by omega)) ?_ | refine VV.b (b_neT (by omega) (by omega)) ?_ | refine VV.b (b_neF (by omega) (by omega)) ?_)
      (refine VV.c rfl ?_; refine cm_lies0 (by decide) ?_)
      repeat refine VV.s rfl ?_
      (refine VV.c rfl ?_; refine cm_part bb.1 (by omega) bb.2.2 ?_)
      exact VV.r rfl q
    · have L2 := fun Q (q : Q _ _) => cm_lies (S := S) (τ := τ) (B := B) (d := d) (Q := Q) ha hla h4 hE 0 i (by omega) (by omega) q
      rw [show 0 + i - 1 = i - 1 by omega] at L2
      repeat (first | refine VV.add rfl ?_ | refine VV.inc rfl rfl rfl ?_ | refine VV.mul rfl ?_ | refine VV.sub rfl (by omega) ?_ | refine VV.shl1 rfl (by omega) ?_ | refine VV.shl rfl ⟨by omega, by omega⟩ ?_ | refine VV.shr rfl ⟨by omega, by omega⟩ ?_ | refine VV.and rfl ?_ | refine VV.div rfl ⟨by omega, by omega, by omega⟩ ?_ | refine VV.rem rfl ⟨by omega, by omega, by omega⟩ ?_ | refine VV.s rfl ?_  | refine VV.b (b_ltT (by omega) (by omega)) ?_ | refine VV.b (b_ltF (by omega) (by omega)) ?_ | refine VV.b (b_geT (by omega) (by omega)) ?_ | refine VV.b (b_geF (by omega) (by omega)) ?_ | refine VV.b (b_gtT (by omega) (by omega)) ?_ | refine VV.b (b_gtF (by omega) (by omega)) ?_ | refine VV.b (b_leT (by omega) (by omega)) ?_ | refine VV.b (b_leF (by omega) (by omega)) ?_ | refine VV.b (b_eqT (by omega) (by omega)) ?_ | refine VV.b (b_eqF (by omega) (by omega)) ?_ | refine VV.b (b_neT (by omega) (by omega)) ?_ | refine VV.b (b_neF (by omega) (by omega)) ?_)
      (refine VV.c rfl ?_; refine L2 _ ?_)
      repeat refine VV.s rfl ?_
      (refine VV.c rfl ?_; refine cm_part bb.1 (by omega) bb.2.2 ?_)
      exact VV.r rfl q
  · rw [if_neg c] at q
    have bb := hf (by omega)
    have L1 := fun Q (q : Q _ _) => cm_lies (S := S) (τ := τ) (B := B) (d := d) (Q := Q) ha hla h4 hE (i - j) (j + 1) (by omega) (by omega) q
    rw [show i - j + (j + 1) - 1 = i by omega, show j + 1 - 1 = j by omega] at L1
    have L4 := fun Q (q : Q _ _) => cm_lies (S := S) (τ := τ) (B := B) (d := d) (Q := Q) ha hla h4 hE (i - j - 1) (j + 1) (by omega) (by omega) q
    rw [show i - j - 1 + (j + 1) - 1 = i - 1 by omega, show j + 1 - 1 = j by omega] at L4
    repeat (first | refine VV.add rfl ?_ | refine VV.inc rfl rfl rfl ?_ | refine VV.mul rfl ?_ | refine VV.sub rfl (by omega) ?_ | refine VV.shl1 rfl (by omega) ?_ | refine VV.shl rfl ⟨by omega, by omega⟩ ?_ | refine VV.shr rfl ⟨by omega, by omega⟩ ?_ | refine VV.and rfl ?_ | refine VV.div rfl ⟨by omega, by omega, by omega⟩ ?_ | refine VV.rem rfl ⟨by omega, by omega, by omega⟩ ?_ | refine VV.s rfl ?_  | refine VV.b (b_ltT (by omega) (by omega)) ?_ | refine VV.b (b_ltF (by omega) (by omega)) ?_ | refine VV.b (b_geT (by omega) (by omega)) ?_ | refine VV.b (b_geF (by omega) (by omega)) ?_ | refine VV.b (b_gtT (by omega) (by omega)) ?_ | refine VV.b (b_gtF (by omega) (by omega)) ?_ | refine VV.b (b_leT (by omega) (by omega)) ?_ | refine VV.b (b_leF (by omega) (by omega)) ?_ | refine VV.b (b_eqT (by omega) (by omega)) ?_ | refine VV.b (b_eqF (by omega) (by omega)) ?_ | refine VV.b (b_neT (by omega) (by omega)) ?_ | refine VV.b (b_neF (by omega) (by omega)) ?_)
    (refine VV.c rfl ?_; refine L1 _ ?_)
    by_cases c0 : j = 0
    · subst c0
      rw [e0, e0] at q bb
      rcases (show i = 1 ∨ i = 2 ∨ i = 3 by omega) with rfl | rfl | rfl
      · repeat (first | refine VV.add rfl ?_ | refine VV.inc rfl rfl rfl ?_ | refine VV.mul rfl ?_ | refine VV.sub rfl (by omega) ?_ | refine VV.shl1 rfl (by omega) ?_ | refine VV.shl rfl ⟨by omega, by omega⟩ ?_ | refine VV.shr rfl ⟨by omega, by omega⟩ ?_ | refine VV.and rfl ?_ | refine VV.div rfl ⟨by omega, by omega, by omega⟩ ?_ | refine VV.rem rfl ⟨by omega, by omega, by omega⟩ ?_ | refine VV.s rfl ?_  | refine VV.b (b_ltT (by omega) (by omega)) ?_ | refine VV.b (b_ltF (by omega) (by omega)) ?_ | refine VV.b (b_geT (by omega) (by omega)) ?_ | refine VV.b (b_geF (by omega) (by omega)) ?_ | refine VV.b (b_gtT (by omega) (by omega)) ?_ | refine VV.b (b_gtF (by omega) (by omega)) ?_ | refine VV.b (b_leT (by omega) (by omega)) ?_ | refine VV.b (b_leF (by omega) (by omega)) ?_ | refine VV.b (b_eqT (by omega) (by omega)) ?_ | refine VV.b (b_eqF (by omega) (by omega)) ?_ | refine VV.b (b_neT (by omega) (by omega)) ?_ | refine VV.b (b_neF (by omega) (by omega)) ?_)
        (refine VV.c rfl ?_; refine cm_lies0 (r := 0) (by decide) ?_)
        repeat (first | refine VV.add rfl ?_ | refine VV.inc rfl rfl rfl ?_ | refine VV.mul rfl ?_ | refine VV.sub rfl (by omega) ?_ | refine VV.shl1 rfl (by omega) ?_ | refine VV.shl rfl ⟨by omega, by omega⟩ ?_ | refine VV.shr rfl ⟨by omega, by omega⟩ ?_ | refine VV.and rfl ?_ | refine VV.div rfl ⟨by omega, by omega, by omega⟩ ?_ | refine VV.rem rfl ⟨by omega, by omega, by omega⟩ ?_ | refine VV.s rfl ?_  | refine VV.b (b_ltT (by omega) (by omega)) ?_ | refine VV.b (b_ltF (by omega) (by omega)) ?_ | refine VV.b (b_geT (by omega) (by omega)) ?_ | refine VV.b (b_geF (by omega) (by omega)) ?_ | refine VV.b (b_gtT (by omega) (by omega)) ?_ | refine VV.b (b_gtF (by omega) (by omega)) ?_ | refine VV.b (b_leT (by omega) (by omega)) ?_ | refine VV.b (b_leF (by omega) (by omega)) ?_ | refine VV.b (b_eqT (by omega) (by omega)) ?_ | refine VV.b (b_eqF (by omega) (by omega)) ?_ | refine VV.b (b_neT (by omega) (by omega)) ?_ | refine VV.b (b_neF (by omega) (by omega)) ?_)
        (refine VV.c rfl ?_; refine cm_lies0 (r := 1) (by decide) ?_)
        repeat (first | refine VV.add rfl ?_ | refine VV.inc rfl rfl rfl ?_ | refine VV.mul rfl ?_ | refine VV.sub rfl (by omega) ?_ | refine VV.shl1 rfl (by omega) ?_ | refine VV.shl rfl ⟨by omega, by omega⟩ ?_ | refine VV.shr rfl ⟨by omega, by omega⟩ ?_ | refine VV.and rfl ?_ | refine VV.div rfl ⟨by omega, by omega, by omega⟩ ?_ | refine VV.rem rfl ⟨by omega, by omega, by omega⟩ ?_ | refine VV.s rfl ?_  | refine VV.b (b_ltT (by omega) (by omega)) ?_ | refine VV.b (b_ltF (by omega) (by omega)) ?_ | refine VV.b (b_geT (by omega) (by omega)) ?_ | refine VV.b (b_geF (by omega) (by omega)) ?_ | refine VV.b (b_gtT (by omega) (by omega)) ?_ | refine VV.b (b_gtF (by omega) (by omega)) ?_ | refine VV.b (b_leT (by omega) (by omega)) ?_ | refine VV.b (b_leF (by omega) (by omega)) ?_ | refine VV.b (b_eqT (by omega) (by omega)) ?_ | refine VV.b (b_eqF (by omega) (by omega)) ?_ | refine VV.b (b_neT (by omega) (by omega)) ?_ | refine VV.b (b_neF (by omega) (by omega)) ?_)
        (refine VV.c rfl ?_; refine L4 _ ?_)
        repeat refine VV.s rfl ?_
        (refine VV.c rfl ?_; refine cm_part bb.1 (by omega) bb.2.2 ?_)
        exact VV.r rfl q
      · repeat (first | refine VV.add rfl ?_ | refine VV.inc rfl rfl rfl ?_ | refine VV.mul rfl ?_ | refine VV.sub rfl (by omega) ?_ | refine VV.shl1 rfl (by omega) ?_ | refine VV.shl rfl ⟨by omega, by omega⟩ ?_ | refine VV.shr rfl ⟨by omega, by omega⟩ ?_ | refine VV.and rfl ?_ | refine VV.div rfl ⟨by omega, by omega, by omega⟩ ?_ | refine VV.rem rfl ⟨by omega, by omega, by omega⟩ ?_ | refine VV.s rfl ?_  | refine VV.b (b_ltT (by omega) (by omega)) ?_ | refine VV.b (b_ltF (by omega) (by omega)) ?_ | refine VV.b (b_geT (by omega) (by omega)) ?_ | refine VV.b (b_geF (by omega) (by omega)) ?_ | refine VV.b (b_gtT (by omega) (by omega)) ?_ | refine VV.b (b_gtF (by omega) (by omega)) ?_ | refine VV.b (b_leT (by omega) (by omega)) ?_ | refine VV.b (b_leF (by omega) (by omega)) ?_ | refine VV.b (b_eqT (by omega) (by omega)) ?_ | refine VV.b (b_eqF (by omega) (by omega)) ?_ | refine VV.b (b_neT (by omega) (by omega)) ?_ | refine VV.b (b_neF (by omega) (by omega)) ?_)
        (refine VV.c rfl ?_; refine cm_lies0 (r := 1) (by decide) ?_)
        repeat (first | refine VV.add rfl ?_ | refine VV.inc rfl rfl rfl ?_ | refine VV.mul rfl ?_ | refine VV.sub rfl (by omega) ?_ | refine VV.shl1 rfl (by omega) ?_ | refine VV.shl rfl ⟨by omega, by omega⟩ ?_ | refine VV.shr rfl ⟨by omega, by omega⟩ ?_ | refine VV.and rfl ?_ | refine VV.div rfl ⟨by omega, by omega, by omega⟩ ?_ | refine VV.rem rfl ⟨by omega, by omega, by omega⟩ ?_ | refine VV.s rfl ?_  | refine VV.b (b_ltT (by omega) (by omega)) ?_ | refine VV.b (b_ltF (by omega) (by omega)) ?_ | refine VV.b (b_geT (by omega) (by omega)) ?_ | refine VV.b (b_geF (by omega) (by omega)) ?_ | refine VV.b (b_gtT (by omega) (by omega)) ?_ | refine VV.b (b_gtF (by omega) (by omega)) ?_ | refine VV.b (b_leT (by omega) (by omega)) ?_ | refine VV.b (b_leF (by omega) (by omega)) ?_ | refine VV.b (b_eqT (by omega) (by omega)) ?_ | refine VV.b (b_eqF (by omega) (by omega)) ?_ | refine VV.b (b_neT (by omega) (by omega)) ?_ | refine VV.b (b_neF (by omega) (by omega)) ?_)
        (refine VV.c rfl ?_; refine cm_lies0 (r := 2) (by decide) ?_)
        repeat (first | refine VV.add rfl ?_ | refine VV.inc rfl rfl rfl ?_ | refine VV.mul rfl ?_ | refine VV.sub rfl (by omega) ?_ | refine VV.shl1 rfl (by omega) ?_ | refine VV.shl rfl ⟨by omega, by omega⟩ ?_ | refine VV.shr rfl ⟨by omega, by omega⟩ ?_ | refine VV.and rfl ?_ | refine VV.div rfl ⟨by omega, by omega, by omega⟩ ?_ | refine VV.rem rfl ⟨by omega, by omega, by omega⟩ ?_ | refine VV.s rfl ?_  | refine VV.b (b_ltT (by omega) (by omega)) ?_ | refine VV.b (b_ltF (by omega) (by omega)) ?_ | refine VV.b (b_geT (by omega) (by omega)) ?_ | refine VV.b (b_geF (by omega) (by omega)) ?_ | refine VV.b (b_gtT (by omega) (by omega)) ?_ | refine VV.b (b_gtF (by omega) (by omega)) ?_ | refine VV.b (b_leT (by omega) (by omega)) ?_ | refine VV.b (b_leF (by omega) (by omega)) ?_ | refine VV.b (b_eqT (by omega) (by omega)) ?_ | refine VV.b (b_eqF (by omega) (by omega)) ?_ | refine VV.b (b_neT (by omega) (by omega)) ?_ | refine VV.b (b_neF (by omega) (by omega)) ?_)
        (refine VV.c rfl ?_; refine L4 _ ?_)
        repeat refine VV.s rfl ?_
        (refine VV.c rfl ?_; refine cm_part bb.1 (by omega) bb.2.2 ?_)
        exact VV.r rfl q
      · repeat (first | refine VV.add rfl ?_ | refine VV.inc rfl rfl rfl ?_ | refine VV.mul rfl ?_ | refine VV.sub rfl (by omega) ?_ | refine VV.shl1 rfl (by omega) ?_ | refine VV.shl rfl ⟨by omega, by omega⟩ ?_ | refine VV.shr rfl ⟨by omega, by omega⟩ ?_ | refine VV.and rfl ?_ | refine VV.div rfl ⟨by omega, by omega, by omega⟩ ?_ | refine VV.rem rfl ⟨by omega, by omega, by omega⟩ ?_ | refine VV.s rfl ?_  | refine VV.b (b_ltT (by omega) (by omega)) ?_ | refine VV.b (b_ltF (by omega) (by omega)) ?_ | refine VV.b (b_geT (by omega) (by omega)) ?_ | refine VV.b (b_geF (by omega) (by omega)) ?_ | refine VV.b (b_gtT (by omega) (by omega)) ?_ | refine VV.b (b_gtF (by omega) (by omega)) ?_ | refine VV.b (b_leT (by omega) (by omega)) ?_ | refine VV.b (b_leF (by omega) (by omega)) ?_ | refine VV.b (b_eqT (by omega) (by omega)) ?_ | refine VV.b (b_eqF (by omega) (by omega)) ?_ | refine VV.b (b_neT (by omega) (by omega)) ?_ | refine VV.b (b_neF (by omega) (by omega)) ?_)
        (refine VV.c rfl ?_; refine cm_lies0 (r := 2) (by decide) ?_)
        repeat (first | refine VV.add rfl ?_ | refine VV.inc rfl rfl rfl ?_ | refine VV.mul rfl ?_ | refine VV.sub rfl (by omega) ?_ | refine VV.shl1 rfl (by omega) ?_ | refine VV.shl rfl ⟨by omega, by omega⟩ ?_ | refine VV.shr rfl ⟨by omega, by omega⟩ ?_ | refine VV.and rfl ?_ | refine VV.div rfl ⟨by omega, by omega, by omega⟩ ?_ | refine VV.rem rfl ⟨by omega, by omega, by omega⟩ ?_ | refine VV.s rfl ?_  | refine VV.b (b_ltT (by omega) (by omega)) ?_ | refine VV.b (b_ltF (by omega) (by omega)) ?_ | refine VV.b (b_geT (by omega) (by omega)) ?_ | refine VV.b (b_geF (by omega) (by omega)) ?_ | refine VV.b (b_gtT (by omega) (by omega)) ?_ | refine VV.b (b_gtF (by omega) (by omega)) ?_ | refine VV.b (b_leT (by omega) (by omega)) ?_ | refine VV.b (b_leF (by omega) (by omega)) ?_ | refine VV.b (b_eqT (by omega) (by omega)) ?_ | refine VV.b (b_eqF (by omega) (by omega)) ?_ | refine VV.b (b_neT (by omega) (by omega)) ?_ | refine VV.b (b_neF (by omega) (by omega)) ?_)
        (refine VV.c rfl ?_; refine cm_lies0 (r := 3) (by decide) ?_)
        repeat (first | refine VV.add rfl ?_ | refine VV.inc rfl rfl rfl ?_ | refine VV.mul rfl ?_ | refine VV.sub rfl (by omega) ?_ | refine VV.shl1 rfl (by omega) ?_ | refine VV.shl rfl ⟨by omega, by omega⟩ ?_ | refine VV.shr rfl ⟨by omega, by omega⟩ ?_ | refine VV.and rfl ?_ | refine VV.div rfl ⟨by omega, by omega, by omega⟩ ?_ | refine VV.rem rfl ⟨by omega, by omega, by omega⟩ ?_ | refine VV.s rfl ?_  | refine VV.b (b_ltT (by omega) (by omega)) ?_ | refine VV.b (b_ltF (by omega) (by omega)) ?_ | refine VV.b (b_geT (by omega) (by omega)) ?_ | refine VV.b (b_geF (by omega) (by omega)) ?_ | refine VV.b (b_gtT (by omega) (by omega)) ?_ | refine VV.b (b_gtF (by omega) (by omega)) ?_ | refine VV.b (b_leT (by omega) (by omega)) ?_ | refine VV.b (b_leF (by omega) (by omega)) ?_ | refine VV.b (b_eqT (by omega) (by omega)) ?_ | refine VV.b (b_eqF (by omega) (by omega)) ?_ | refine VV.b (b_neT (by omega) (by omega)) ?_ | refine VV.b (b_neF (by omega) (by omega)) ?_)
        (refine VV.c rfl ?_; refine L4 _ ?_)
        repeat refine VV.s rfl ?_
        (refine VV.c rfl ?_; refine cm_part bb.1 (by omega) bb.2.2 ?_)
        exact VV.r rfl q
    · have L2 := fun Q (q : Q _ _) => cm_lies (S := S) (τ := τ) (B := B) (d := d) (Q := Q) ha hla h4 hE (i - j - 1) j (by omega) (by omega) q
      rw [show i - j - 1 + j - 1 = i - 2 by omega] at L2
      have L3 := fun Q (q : Q _ _) => cm_lies (S := S) (τ := τ) (B := B) (d := d) (Q := Q) ha hla h4 hE (i - j) j (by omega) (by omega) q
      rw [show i - j + j - 1 = i - 1 by omega] at L3
      repeat (first | refine VV.add rfl ?_ | refine VV.inc rfl rfl rfl ?_ | refine VV.mul rfl ?_ | refine VV.sub rfl (by omega) ?_ | refine VV.shl1 rfl (by omega) ?_ | refine VV.shl rfl ⟨by omega, by omega⟩ ?_ | refine VV.shr rfl ⟨by omega, by omega⟩ ?_ | refine VV.and rfl ?_ | refine VV.div rfl ⟨by omega, by omega, by omega⟩ ?_ | refine VV.rem rfl ⟨by omega, by omega, by omega⟩ ?_ | refine VV.s rfl ?_  | refine VV.b (b_ltT (by omega) (by omega)) ?_ | refine VV.b (b_ltF (by omega) (by omega)) ?_ | refine VV.b (b_geT (by omega) (by omega)) ?_ | refine VV.b (b_geF (by omega) (by omega)) ?_ | refine VV.b (b_gtT (by omega) (by omega)) ?_ | refine VV.b (b_gtF (by omega) (by omega)) ?_ | refine VV.b (b_leT (by omega) (by omega)) ?_ | refine VV.b (b_leF (by omega) (by omega)) ?_ | refine VV.b (b_eqT (by omega) (by omega)) ?_ | refine VV.b (b_eqF (by omega) (by omega)) ?_ | refine VV.b (b_neT (by omega) (by omega)) ?_ | refine VV.b (b_neF (by omega) (by omega)) ?_)
      (refine VV.c rfl ?_; refine L2 _ ?_)
      repeat (first | refine VV.add rfl ?_ | refine VV.inc rfl rfl rfl ?_ | refine VV.mul rfl ?_ | refine VV.sub rfl (by omega) ?_ | refine VV.shl1 rfl (by omega) ?_ | refine VV.shl rfl ⟨by omega, by omega⟩ ?_ | refine VV.shr rfl ⟨by omega, by omega⟩ ?_ | refine VV.and rfl ?_ | refine VV.div rfl ⟨by omega, by omega, by omega⟩ ?_ | refine VV.rem rfl ⟨by omega, by omega, by omega⟩ ?_ | refine VV.s rfl ?_  | refine VV.b (b_ltT (by omega) (by omega)) ?_ | refine VV.b (b_ltF (by omega) (by omega)) ?_ | refine VV.b (b_geT (by omega) (by omega)) ?_ | refine VV.b (b_geF (by omega) (by omega)) ?_ | refine VV.b (b_gtT (by omega) (by omega)) ?_ | refine VV.b (b_gtF (by omega) (by omega)) ?_ | refine VV.b (b_leT (by omega) (by omega)) ?_ | refine VV.b (b_leF (by omega) (by omega)) ?_ | refine VV.b (b_eqT (by omega) (by omega)) ?_ | refine VV.b (b_eqF (by omega) (by omega)) ?_ | refine VV.b (b_neT (by omega) (by omega)) ?_ | refine VV.b (b_neF (by omega) (by omega)) ?_)
      (refine VV.c rfl ?_; refine L3 _ ?_)
      repeat (first | refine VV.add rfl ?_ | refine VV.inc rfl rfl rfl ?_ | refine VV.mul rfl ?_ | refine VV.sub rfl (by omega) ?_ | refine VV.shl1 rfl (by omega) ?_ | refine VV.shl rfl ⟨by omega, by omega⟩ ?_ | refine VV.shr rfl ⟨by omega, by omega⟩ ?_ | refine VV.and rfl ?_ | refine VV.div rfl ⟨by omega, by omega, by omega⟩ ?_ | refine VV.rem rfl ⟨by omega, by omega, by omega⟩ ?_ | refine VV.s rfl ?_  | refine VV.b (b_ltT (by omega) (by omega)) ?_ | refine VV.b (b_ltF (by omega) (by omega)) ?_ | refine VV.b (b_geT (by omega) (by omega)) ?_ | refine VV.b (b_geF (by omega) (by omega)) ?_ | refine VV.b (b_gtT (by omega) (by omega)) ?_ | refine VV.b (b_gtF (by omega) (by omega)) ?_ | refine VV.b (b_leT (by omega) (by omega)) ?_ | refine VV.b (b_leF (by omega) (by omega)) ?_ | refine VV.b (b_eqT (by omega) (by omega)) ?_ | refine VV.b (b_eqF (by omega) (by omega)) ?_ | refine VV.b (b_neT (by omega) (by omega)) ?_ | refine VV.b (b_neF (by omega) (by omega)) ?_)
      (refine VV.c rfl ?_; refine L4 _ ?_)
      repeat refine VV.s rfl ?_
      (refine VV.c rfl ?_; refine cm_part bb.1 (by omega) bb.2.2 ?_)
      exact VV.r rfl q
end MG
