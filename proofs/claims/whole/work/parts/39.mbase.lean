/-! the reference: what its calls stand on -/
def F58 (τ : Nat → Int32) : List Value := [.int (τ 5800), .ref 59, .ref 60, .ref 61, .ref 62, .int (τ 5805), .ref 63, .ref 64, .int (τ 5808), .ref 65, .ref 66, .ref 67, .ref 68, .ref 69, .ref 70, .int (τ 5815), .int (τ 5816), .int (τ 5817), .ref 71, .ref 72, .ref 73, .ref 74, .int (τ 5822), .ref 75, .ref 76, .ref 77, .int (τ 5826), .ref 78, .ref 79, .int (τ 5829), .ref 80, .ref 81, .int (τ 5832), .ref 82, .ref 83, .ref 84, .ref 85, .int (τ 5837), .ref 86, .ref 87, .ref 88, .ref 89, .ref 90, .ref 91, .ref 92, .int (τ 5845), .int (τ 5846), .int (τ 5847), .int (τ 5848), .int (τ 5849)]
theorem rd58 {S : Cl} {τ : Nat → Int32} {A : Nat → Nat → Int32} {B : Nat → Nat → Int64} : nth (HH S τ A B) 58 = some (7, F58 τ) := rfl
def tabM : List (Nat × Nat) := [(0, 5800), (5, 5805), (8, 5808), (15, 5815), (16, 5816), (22, 5822), (26, 5826), (29, 5829), (32, 5832), (37, 5837), (45, 5845), (46, 5846), (47, 5847), (48, 5848), (49, 5849)]
section G58
variable {d u pc nx k i z : Nat} {ng : Bool} {sw : List (Nat × Nat)} {L : Lc} {r : List Value} {v : Value} {x y : Int32} {h' : Hp} {S : Cl} {τ : Nat → Int32} {A : Nat → Nat → Int32} {B : Nat → Nat → Int64} {Q : Option Value → Hp → Prop}
theorem VV.g58 (e : codeAt u pc = some (.getfield i, nx, k, ng, (7, z) :: sw)) (hv : nth (F58 τ) k = some v) (g : VV d u nx L (v :: r) (HH S τ A B) Q) : VV d u pc L (.ref 58 :: r) (HH S τ A B) Q := VV.g e rd58 hv g
theorem VV.g58n (e : codeAt u pc = some (.getfield i, nx, k, ng, (7, z) :: sw)) (hv : nth (F58 τ) k = some (.int x)) (hx : x = y) (g : VV d u nx L (.int y :: r) (HH S τ A B) Q) : VV d u pc L (.ref 58 :: r) (HH S τ A B) Q := VV.g e rd58 hv (by rw [hx]; exact g)
theorem VV.pf {f : Nat} (e : codeAt u pc = some (.putfield i, nx, k, ng, (7, z) :: sw)) (hf : lkp tabM k = some f) (g : VV d u nx L r (HH S (up τ f x) A B) Q) : VV d u pc L (.int x :: .ref 58 :: r) (HH S τ A B) Q := by
  have hm := lkp_mem (a := k) (l := tabM) (by rw [hf]; rfl)
  simp only [tabM, List.map_cons, List.map_nil, List.mem_cons, List.not_mem_nil, or_false] at hm
  rcases hm with rfl | rfl | rfl | rfl | rfl | rfl | rfl | rfl | rfl | rfl | rfl | rfl | rfl | rfl | rfl
  · cases hf; exact VV.p e rd58 (show 0 < 50 by decide) rfl (wf_5800 S τ A B x) g
  · cases hf; exact VV.p e rd58 (show 5 < 50 by decide) rfl (wf_5805 S τ A B x) g
  · cases hf; exact VV.p e rd58 (show 8 < 50 by decide) rfl (wf_5808 S τ A B x) g
  · cases hf; exact VV.p e rd58 (show 15 < 50 by decide) rfl (wf_5815 S τ A B x) g
  · cases hf; exact VV.p e rd58 (show 16 < 50 by decide) rfl (wf_5816 S τ A B x) g
  · cases hf; exact VV.p e rd58 (show 22 < 50 by decide) rfl (wf_5822 S τ A B x) g
  · cases hf; exact VV.p e rd58 (show 26 < 50 by decide) rfl (wf_5826 S τ A B x) g
  · cases hf; exact VV.p e rd58 (show 29 < 50 by decide) rfl (wf_5829 S τ A B x) g
  · cases hf; exact VV.p e rd58 (show 32 < 50 by decide) rfl (wf_5832 S τ A B x) g
  · cases hf; exact VV.p e rd58 (show 37 < 50 by decide) rfl (wf_5837 S τ A B x) g
  · cases hf; exact VV.p e rd58 (show 45 < 50 by decide) rfl (wf_5845 S τ A B x) g
  · cases hf; exact VV.p e rd58 (show 46 < 50 by decide) rfl (wf_5846 S τ A B x) g
  · cases hf; exact VV.p e rd58 (show 47 < 50 by decide) rfl (wf_5847 S τ A B x) g
  · cases hf; exact VV.p e rd58 (show 48 < 50 by decide) rfl (wf_5848 S τ A B x) g
  · cases hf; exact VV.p e rd58 (show 49 < 50 by decide) rfl (wf_5849 S τ A B x) g
theorem VV.w5817 (e : codeAt u pc = some (.putfield i, nx, 17, ng, (7, z) :: sw)) (ho : okf (fty 7 17) (.int x) = true) (g : VV d u nx L r (HH S (up τ 5817 x) A B) Q) : VV d u pc L (.int x :: .ref 58 :: r) (HH S τ A B) Q := VV.p e rd58 (show 17 < 50 by decide) ho (wf_5817 S τ A B x) g
end G58
theorem rgB_lt {n : Nat} (h1 : 1 ≤ n) (h : n < 2147483648) (x : Int32) : rgB (nI 0) (nI (n - 1)) x = ltB n x := by
  rcases nI_or x with hx | ⟨k, hk, rfl⟩
  · rw [ltB_neg hx, rgB_lo (show x < nI 0 from hx)]
  · rw [ltB_nI hk]
    by_cases c : k < n
    · rw [decide_eq_true c, rgB_in (fun z => absurd ((nI_ltI hk (by omega)).mp z) (by omega)) (fun z => absurd ((nI_ltI (by omega) hk).mp z) (by omega))]
    · rw [decide_eq_false c, rgB_hi ((nI_ltI (by omega) hk).mpr (by omega))]
theorem rgB_cases {a b : Nat} (ha : a < 2147483648) (hb : b < 2147483648) (x : Int32) : (rgB (nI a) (nI b) x = true ∧ ∃ k, a ≤ k ∧ k ≤ b ∧ x = nI k) ∨ (rgB (nI a) (nI b) x = false ∧ ∀ k, a ≤ k → k ≤ b → x ≠ nI k) := by
  have neg : ∀ k, k < 2147483648 → ¬ nI k < 0 := fun k hk => nI_pos hk
  rcases nI_or x with hx | ⟨k, hk, rfl⟩
  · refine Or.inr ⟨rgB_lo ?_, fun k h1 h2 e => neg k (by omega) (e ▸ hx)⟩
    rw [Int32.lt_iff_toInt_lt] at hx ⊢
    have := neg a ha
    rw [Int32.lt_iff_toInt_lt] at this
    omega
  · by_cases c1 : k < a
    · refine Or.inr ⟨rgB_lo ((nI_ltI hk ha).mpr c1), fun l h1 h2 e => ?_⟩
      have := (nI_eq hk (by omega)).mp e
      omega
    · by_cases c2 : b < k
      · refine Or.inr ⟨rgB_hi ((nI_ltI hb hk).mpr c2), fun l h1 h2 e => ?_⟩
        have := (nI_eq hk (by omega)).mp e
        omega
      · exact Or.inl ⟨rgB_in (fun z => c1 ((nI_ltI hk ha).mp z)) (fun z => c2 ((nI_ltI hb hk).mp z)), k, by omega, by omega, rfl⟩
theorem mnB_x {n : Nat} {x y : Int32} (h4 : n ≤ 4) (h : ∀ k, 1 ≤ k → k ≤ 2 ^ n - 1 → x ≠ nI k) : mnB n x y = false := by
  cases hb : mnB n x y with
  | false => rfl
  | true =>
    obtain ⟨R, C, e, _, h1, h2, _⟩ := mnB_spec h4 hb
    exact absurd e (h R h1 (by omega))
theorem mnB_y {n : Nat} {x y : Int32} (h4 : n ≤ 4) (h : ∀ k, 1 ≤ k → k ≤ 2 ^ n - 1 → y ≠ nI k) : mnB n x y = false := by
  cases hb : mnB n x y with
  | false => rfl
  | true =>
    obtain ⟨R, C, _, e, _, _, h1, h2, _⟩ := mnB_spec h4 hb
    exact absurd e (h C h1 (by omega))
section MB
variable {S : Cl} {τ : Nat → Int32} {A : Nat → Nat → Int32} {B : Nat → Nat → Int64}
variable {d n : Nat} {Q : Option Value → Hp → Prop}
theorem cm_in {x lo hi : Int32} {a b : Int64} {h : Hp} (ha : a = lo.toInt64) (hb : b = hi.toInt64) (q : Q (some (.int (bI (rgB lo hi x)))) h) : CC d M_M_in [.long x.toInt64, .long a, .long b] h Q := by
  subst ha hb
  refine CC.of rfl ?_
  repeat refine VV.s rfl ?_
  refine VV.clt (fun c => ?_) (fun c => ?_)
  · rw [rgB_lo (Int32.toInt64_lt.mp c)] at q
    repeat refine VV.s rfl ?_
    exact VV.r rfl q
  · repeat refine VV.s rfl ?_
    refine VV.cgt (fun c2 => ?_) (fun c2 => ?_)
    · rw [rgB_hi (Int32.toInt64_lt.mp c2)] at q
      repeat refine VV.s rfl ?_
      exact VV.r rfl q
    · rw [rgB_in (fun z => c (Int32.toInt64_lt.mpr z)) (fun z => c2 (Int32.toInt64_lt.mpr z))] at q
      repeat refine VV.s rfl ?_
      exact VV.r rfl q
theorem cm_isSpot (hn : τ 5800 = nI n) (h4 : n ≤ 4) {x : Int32} (q : Q (some (.int (bI (spB n x)))) (HH S τ A B)) : CC d M_M_isSpot [.ref 58, .int x] (HH S τ A B) Q := by
  refine CC.of rfl ?_
  rcases nI_or x with hx | ⟨k, hk, rfl⟩
  · rw [spB_neg hx] at q
    refine VV.s rfl ?_
    refine VV.s rfl ?_
    refine VV.t hx ?_
    repeat refine VV.s rfl ?_
    exact VV.r rfl q
  · rw [spB_nI hk] at q
    by_cases c1 : k / 10 < n
    · by_cases c2 : k % 10 < n
      · rw [decide_eq_true c1, decide_eq_true c2] at q
        repeat (first | refine VV.g58n rfl rfl hn ?_ | refine VV.g58 rfl rfl ?_ | refine VV.pf rfl rfl ?_ | refine VV.add rfl ?_ | refine VV.inc rfl rfl rfl ?_ | refine VV.mul rfl ?_ | refine VV.sub rfl (by omega) ?_ | refine VV.shl1 rfl (by omega) ?_ | refine VV.shl rfl ⟨by omega, by omega⟩ ?_ | refine VV.shr rfl ⟨by omega, by omega⟩ ?_ | refine VV.and rfl ?_ | refine VV.div rfl ⟨by omega, by omega, by omega⟩ ?_ | refine VV.rem rfl ⟨by omega, by omega, by omega⟩ ?_ | refine VV.s rfl ?_  | refine VV.b (b_ltT (by omega) (by omega)) ?_ | refine VV.b (b_ltF (by omega) (by omega)) ?_ | refine VV.b (b_geT (by omega) (by omega)) ?_ | refine VV.b (b_geF (by omega) (by omega)) ?_ | refine VV.b (b_gtT (by omega) (by omega)) ?_ | refine VV.b (b_gtF (by omega) (by omega)) ?_ | refine VV.b (b_leT (by omega) (by omega)) ?_ | refine VV.b (b_leF (by omega) (by omega)) ?_ | refine VV.b (b_eqT (by omega) (by omega)) ?_ | refine VV.b (b_eqF (by omega) (by omega)) ?_ | refine VV.b (b_neT (by omega) (by omega)) ?_ | refine VV.b (b_neF (by omega) (by omega)) ?_)
        exact VV.r rfl q
      · rw [decide_eq_true c1, decide_eq_false c2] at q
        repeat (first | refine VV.g58n rfl rfl hn ?_ | refine VV.g58 rfl rfl ?_ | refine VV.pf rfl rfl ?_ | refine VV.add rfl ?_ | refine VV.inc rfl rfl rfl ?_ | refine VV.mul rfl ?_ | refine VV.sub rfl (by omega) ?_ | refine VV.shl1 rfl (by omega) ?_ | refine VV.shl rfl ⟨by omega, by omega⟩ ?_ | refine VV.shr rfl ⟨by omega, by omega⟩ ?_ | refine VV.and rfl ?_ | refine VV.div rfl ⟨by omega, by omega, by omega⟩ ?_ | refine VV.rem rfl ⟨by omega, by omega, by omega⟩ ?_ | refine VV.s rfl ?_  | refine VV.b (b_ltT (by omega) (by omega)) ?_ | refine VV.b (b_ltF (by omega) (by omega)) ?_ | refine VV.b (b_geT (by omega) (by omega)) ?_ | refine VV.b (b_geF (by omega) (by omega)) ?_ | refine VV.b (b_gtT (by omega) (by omega)) ?_ | refine VV.b (b_gtF (by omega) (by omega)) ?_ | refine VV.b (b_leT (by omega) (by omega)) ?_ | refine VV.b (b_leF (by omega) (by omega)) ?_ | refine VV.b (b_eqT (by omega) (by omega)) ?_ | refine VV.b (b_eqF (by omega) (by omega)) ?_ | refine VV.b (b_neT (by omega) (by omega)) ?_ | refine VV.b (b_neF (by omega) (by omega)) ?_)
        exact VV.r rfl q
    · rw [decide_eq_false c1] at q
      repeat (first | refine VV.g58n rfl rfl hn ?_ | refine VV.g58 rfl rfl ?_ | refine VV.pf rfl rfl ?_ | refine VV.add rfl ?_ | refine VV.inc rfl rfl rfl ?_ | refine VV.mul rfl ?_ | refine VV.sub rfl (by omega) ?_ | refine VV.shl1 rfl (by omega) ?_ | refine VV.shl rfl ⟨by omega, by omega⟩ ?_ | refine VV.shr rfl ⟨by omega, by omega⟩ ?_ | refine VV.and rfl ?_ | refine VV.div rfl ⟨by omega, by omega, by omega⟩ ?_ | refine VV.rem rfl ⟨by omega, by omega, by omega⟩ ?_ | refine VV.s rfl ?_  | refine VV.b (b_ltT (by omega) (by omega)) ?_ | refine VV.b (b_ltF (by omega) (by omega)) ?_ | refine VV.b (b_geT (by omega) (by omega)) ?_ | refine VV.b (b_geF (by omega) (by omega)) ?_ | refine VV.b (b_gtT (by omega) (by omega)) ?_ | refine VV.b (b_gtF (by omega) (by omega)) ?_ | refine VV.b (b_leT (by omega) (by omega)) ?_ | refine VV.b (b_leF (by omega) (by omega)) ?_ | refine VV.b (b_eqT (by omega) (by omega)) ?_ | refine VV.b (b_eqF (by omega) (by omega)) ?_ | refine VV.b (b_neT (by omega) (by omega)) ?_ | refine VV.b (b_neF (by omega) (by omega)) ?_)
      exact VV.r rfl q
theorem cm_cell {i j : Nat} (hi : i < 4) (hj : j < 4) {h : Hp} (q : Q (some (.int (nI (4 * i + j)))) h) : CC d M_M_cell [.int (nI (10 * i + j))] h Q := by
  refine CC.of rfl ?_
  repeat (first | refine VV.add rfl ?_ | refine VV.inc rfl rfl rfl ?_ | refine VV.mul rfl ?_ | refine VV.sub rfl (by omega) ?_ | refine VV.shl1 rfl (by omega) ?_ | refine VV.shl rfl ⟨by omega, by omega⟩ ?_ | refine VV.shr rfl ⟨by omega, by omega⟩ ?_ | refine VV.and rfl ?_ | refine VV.div rfl ⟨by omega, by omega, by omega⟩ ?_ | refine VV.rem rfl ⟨by omega, by omega, by omega⟩ ?_ | refine VV.s rfl ?_  | refine VV.b (b_ltT (by omega) (by omega)) ?_ | refine VV.b (b_ltF (by omega) (by omega)) ?_ | refine VV.b (b_geT (by omega) (by omega)) ?_ | refine VV.b (b_geF (by omega) (by omega)) ?_ | refine VV.b (b_gtT (by omega) (by omega)) ?_ | refine VV.b (b_gtF (by omega) (by omega)) ?_ | refine VV.b (b_leT (by omega) (by omega)) ?_ | refine VV.b (b_leF (by omega) (by omega)) ?_ | refine VV.b (b_eqT (by omega) (by omega)) ?_ | refine VV.b (b_eqF (by omega) (by omega)) ?_ | refine VV.b (b_neT (by omega) (by omega)) ?_ | refine VV.b (b_neF (by omega) (by omega)) ?_)
  rw [show (10 * i + j) / 10 = i by omega, show (10 * i + j) % 10 = j by omega]
  exact VV.r rfl q
theorem cm_isMinor (hn : τ 5800 = nI n) (h4 : n ≤ 4) {x y : Int32} (q : Q (some (.int (bI (mnB n x y)))) (HH S τ A B)) : CC (d + 1) M_M_isMinor [.ref 58, .int x, .int y] (HH S τ A B) Q := by
  have hp : 2 ^ n ≤ 2 ^ 4 := Nat.pow_le_pow_right (by omega) h4
  have hp0 : 0 < 2 ^ n := Nat.two_pow_pos n
  refine CC.of rfl ?_
  repeat (first | refine VV.g58n rfl rfl hn ?_ | refine VV.g58 rfl rfl ?_ | refine VV.pf rfl rfl ?_ | refine VV.add rfl ?_ | refine VV.inc rfl rfl rfl ?_ | refine VV.mul rfl ?_ | refine VV.sub rfl (by omega) ?_ | refine VV.shl1 rfl (by omega) ?_ | refine VV.shl rfl ⟨by omega, by omega⟩ ?_ | refine VV.shr rfl ⟨by omega, by omega⟩ ?_ | refine VV.and rfl ?_ | refine VV.div rfl ⟨by omega, by omega, by omega⟩ ?_ | refine VV.rem rfl ⟨by omega, by omega, by omega⟩ ?_ | refine VV.s rfl ?_  | refine VV.b (b_ltT (by omega) (by omega)) ?_ | refine VV.b (b_ltF (by omega) (by omega)) ?_ | refine VV.b (b_geT (by omega) (by omega)) ?_ | refine VV.b (b_geF (by omega) (by omega)) ?_ | refine VV.b (b_gtT (by omega) (by omega)) ?_ | refine VV.b (b_gtF (by omega) (by omega)) ?_ | refine VV.b (b_leT (by omega) (by omega)) ?_ | refine VV.b (b_leF (by omega) (by omega)) ?_ | refine VV.b (b_eqT (by omega) (by omega)) ?_ | refine VV.b (b_eqF (by omega) (by omega)) ?_ | refine VV.b (b_neT (by omega) (by omega)) ?_ | refine VV.b (b_neF (by omega) (by omega)) ?_)
  (refine VV.c rfl ?_; refine cm_in (lo := nI 1) (hi := nI (2 ^ n - 1)) rfl rfl ?_)
  rcases rgB_cases (a := 1) (b := 2 ^ n - 1) (by omega) (by omega) x with ⟨e, R, h1, h2, rfl⟩ | ⟨e, hx⟩
  · rw [e]
    show VV _ _ _ _ [.int (nI 1)] _ _
    repeat (first | refine VV.g58n rfl rfl hn ?_ | refine VV.g58 rfl rfl ?_ | refine VV.pf rfl rfl ?_ | refine VV.add rfl ?_ | refine VV.inc rfl rfl rfl ?_ | refine VV.mul rfl ?_ | refine VV.sub rfl (by omega) ?_ | refine VV.shl1 rfl (by omega) ?_ | refine VV.shl rfl ⟨by omega, by omega⟩ ?_ | refine VV.shr rfl ⟨by omega, by omega⟩ ?_ | refine VV.and rfl ?_ | refine VV.div rfl ⟨by omega, by omega, by omega⟩ ?_ | refine VV.rem rfl ⟨by omega, by omega, by omega⟩ ?_ | refine VV.s rfl ?_  | refine VV.b (b_ltT (by omega) (by omega)) ?_ | refine VV.b (b_ltF (by omega) (by omega)) ?_ | refine VV.b (b_geT (by omega) (by omega)) ?_ | refine VV.b (b_geF (by omega) (by omega)) ?_ | refine VV.b (b_gtT (by omega) (by omega)) ?_ | refine VV.b (b_gtF (by omega) (by omega)) ?_ | refine VV.b (b_leT (by omega) (by omega)) ?_ | refine VV.b (b_leF (by omega) (by omega)) ?_ | refine VV.b (b_eqT (by omega) (by omega)) ?_ | refine VV.b (b_eqF (by omega) (by omega)) ?_ | refine VV.b (b_neT (by omega) (by omega)) ?_ | refine VV.b (b_neF (by omega) (by omega)) ?_)
    (refine VV.c rfl ?_; refine cm_in (lo := nI 1) (hi := nI (2 ^ n - 1)) rfl rfl ?_)
    rcases rgB_cases (a := 1) (b := 2 ^ n - 1) (by omega) (by omega) y with ⟨e2, C, g1, g2, rfl⟩ | ⟨e2, hy⟩
    · rw [e2]
      rw [mnB_nI (by omega) (by omega) h4] at q
      have p1 := pp4 R
      have p2 := pp4 C
      show VV _ _ _ _ [.int (nI 1)] _ _
      repeat (first | refine VV.g58n rfl rfl hn ?_ | refine VV.g58 rfl rfl ?_ | refine VV.pf rfl rfl ?_ | refine VV.add rfl ?_ | refine VV.inc rfl rfl rfl ?_ | refine VV.mul rfl ?_ | refine VV.sub rfl (by omega) ?_ | refine VV.shl1 rfl (by omega) ?_ | refine VV.shl rfl ⟨by omega, by omega⟩ ?_ | refine VV.shr rfl ⟨by omega, by omega⟩ ?_ | refine VV.and rfl ?_ | refine VV.div rfl ⟨by omega, by omega, by omega⟩ ?_ | refine VV.rem rfl ⟨by omega, by omega, by omega⟩ ?_ | refine VV.s rfl ?_  | refine VV.b (b_ltT (by omega) (by omega)) ?_ | refine VV.b (b_ltF (by omega) (by omega)) ?_ | refine VV.b (b_geT (by omega) (by omega)) ?_ | refine VV.b (b_geF (by omega) (by omega)) ?_ | refine VV.b (b_gtT (by omega) (by omega)) ?_ | refine VV.b (b_gtF (by omega) (by omega)) ?_ | refine VV.b (b_leT (by omega) (by omega)) ?_ | refine VV.b (b_leF (by omega) (by omega)) ?_ | refine VV.b (b_eqT (by omega) (by omega)) ?_ | refine VV.b (b_eqF (by omega) (by omega)) ?_ | refine VV.b (b_neT (by omega) (by omega)) ?_ | refine VV.b (b_neF (by omega) (by omega)) ?_)
      (refine VV.c rfl ?_; refine c_bits (show R < 16 by omega) ?_)
      repeat refine VV.s rfl ?_
      (refine VV.c rfl ?_; refine c_bits (show C < 16 by omega) ?_)
      by_cases c : pop4 R = pop4 C
      · rw [decide_eq_true (show _ ∧ _ from ⟨h1, by omega, g1, by omega, c⟩)] at q
        repeat (first | refine VV.add rfl ?_ | refine VV.inc rfl rfl rfl ?_ | refine VV.mul rfl ?_ | refine VV.sub rfl (by omega) ?_ | refine VV.shl1 rfl (by omega) ?_ | refine VV.shl rfl ⟨by omega, by omega⟩ ?_ | refine VV.shr rfl ⟨by omega, by omega⟩ ?_ | refine VV.and rfl ?_ | refine VV.div rfl ⟨by omega, by omega, by omega⟩ ?_ | refine VV.rem rfl ⟨by omega, by omega, by omega⟩ ?_ | refine VV.s rfl ?_  | refine VV.b (b_ltT (by omega) (by omega)) ?_ | refine VV.b (b_ltF (by omega) (by omega)) ?_ | refine VV.b (b_geT (by omega) (by omega)) ?_ | refine VV.b (b_geF (by omega) (by omega)) ?_ | refine VV.b (b_gtT (by omega) (by omega)) ?_ | refine VV.b (b_gtF (by omega) (by omega)) ?_ | refine VV.b (b_leT (by omega) (by omega)) ?_ | refine VV.b (b_leF (by omega) (by omega)) ?_ | refine VV.b (b_eqT (by omega) (by omega)) ?_ | refine VV.b (b_eqF (by omega) (by omega)) ?_ | refine VV.b (b_neT (by omega) (by omega)) ?_ | refine VV.b (b_neF (by omega) (by omega)) ?_)
        exact VV.r rfl q
      · rw [decide_eq_false (fun z => c z.2.2.2.2)] at q
        repeat (first | refine VV.add rfl ?_ | refine VV.inc rfl rfl rfl ?_ | refine VV.mul rfl ?_ | refine VV.sub rfl (by omega) ?_ | refine VV.shl1 rfl (by omega) ?_ | refine VV.shl rfl ⟨by omega, by omega⟩ ?_ | refine VV.shr rfl ⟨by omega, by omega⟩ ?_ | refine VV.and rfl ?_ | refine VV.div rfl ⟨by omega, by omega, by omega⟩ ?_ | refine VV.rem rfl ⟨by omega, by omega, by omega⟩ ?_ | refine VV.s rfl ?_  | refine VV.b (b_ltT (by omega) (by omega)) ?_ | refine VV.b (b_ltF (by omega) (by omega)) ?_ | refine VV.b (b_geT (by omega) (by omega)) ?_ | refine VV.b (b_geF (by omega) (by omega)) ?_ | refine VV.b (b_gtT (by omega) (by omega)) ?_ | refine VV.b (b_gtF (by omega) (by omega)) ?_ | refine VV.b (b_leT (by omega) (by omega)) ?_ | refine VV.b (b_leF (by omega) (by omega)) ?_ | refine VV.b (b_eqT (by omega) (by omega)) ?_ | refine VV.b (b_eqF (by omega) (by omega)) ?_ | refine VV.b (b_neT (by omega) (by omega)) ?_ | refine VV.b (b_neF (by omega) (by omega)) ?_)
        exact VV.r rfl q
    · rw [e2]
      rw [mnB_y h4 hy] at q
      repeat refine VV.s rfl ?_
      exact VV.r rfl q
  · rw [e]
    rw [mnB_x h4 hx] at q
    repeat refine VV.s rfl ?_
    exact VV.r rfl q
end MB
/-- a call of the reference -/
def KM (d u : Nat) (args : List Value) (s : St) (r : Int32 × St) : Prop := ∀ (S : Cl) (τ : Nat → Int32) (A : Nat → Nat → Int32) (B : Nat → Nat → Int64) (Q : Option Value → Hp → Prop), RM s τ A B → (∀ τ' A' B', RM r.2 τ' A' B' → FM τ A B τ' A' B' → Q (some (.int r.1)) (HH S τ' A' B')) → CC d u args (HH S τ A B) Q
def KMJ (d u : Nat) (args : List Value) (s : St) (r : Int64 × St) : Prop := ∀ (S : Cl) (τ : Nat → Int32) (A : Nat → Nat → Int32) (B : Nat → Nat → Int64) (Q : Option Value → Hp → Prop), RM s τ A B → (∀ τ' A' B', RM r.2 τ' A' B' → FM τ A B τ' A' B' → Q (some (.long r.1)) (HH S τ' A' B')) → CC d u args (HH S τ A B) Q
theorem zero_nt {p : Nat → Prop} : ∀ k, k < 0 → p k := fun k hk => absurd hk (Nat.not_lt_zero k)
theorem rz_t (x : Int32) : rz x.toInt64 = x + nI 100 := by unfold rz; rw [Int32.toInt32_toInt64]
section M1
variable {d : Nat} {s : St}
theorem cm_begins {S : Cl} {τ : Nat → Int32} {A : Nat → Nat → Int32} {B : Nat → Nat → Int64} {Q : Option Value → Hp → Prop} (q : ∀ f g, (∀ k, k < 16 → f k = if k / 4 = k % 4 then nI 1 else nI 0) → (∀ k, k < 4 → g k = nI 0) → Q none (HH S (up (up τ 5808 (nI 0)) 5805 (nI 0)) (up (up A 59 f) 60 g) B)) : CC d M_M_begins [.ref 58] (HH S τ A B) Q := by
  refine CC.of rfl ?_
  have V2 : ∀ f, (∀ k, k < 16 → f k = if k / 4 = k % 4 then nI 1 else nI 0) → VV d M_M_begins 36 [some (.ref 58), some (.int (nI 0))] [] (HH S τ (up (up A 59 f) 60 (A 60)) B) Q := by
    intro f hf
    refine VV.inv (fun k (g : Nat → Int32) => ∀ l, l < k → g l = nI 0) (fun k g => VV d M_M_begins 36 [some (.ref 58), some (.int (nI k))] [] (HH S τ (up (up A 59 f) 60 g) B) Q) 4 ?_ ?_ 4 0 (A 60) (by omega) (fun l hl => by omega)
    · intro k g hk hI nxt
      have := nxt (up g k (nI 0)) (fun l hl => by
        by_cases e : l = k
        · rw [e, up_s]
        · rw [up_n e]; exact hI l (by omega))
      repeat (first | refine VV.g58 rfl rfl ?_ | refine VV.pf rfl rfl ?_ | refine VV.add rfl ?_ | refine VV.inc rfl rfl rfl ?_ | refine VV.mul rfl ?_ | refine VV.sub rfl (by omega) ?_ | refine VV.shl1 rfl (by omega) ?_ | refine VV.shl rfl ⟨by omega, by omega⟩ ?_ | refine VV.shr rfl ⟨by omega, by omega⟩ ?_ | refine VV.and rfl ?_ | refine VV.div rfl ⟨by omega, by omega, by omega⟩ ?_ | refine VV.rem rfl ⟨by omega, by omega, by omega⟩ ?_ | refine VV.s rfl ?_  | refine VV.b (b_ltT (by omega) (by omega)) ?_ | refine VV.b (b_ltF (by omega) (by omega)) ?_ | refine VV.b (b_geT (by omega) (by omega)) ?_ | refine VV.b (b_geF (by omega) (by omega)) ?_ | refine VV.b (b_gtT (by omega) (by omega)) ?_ | refine VV.b (b_gtF (by omega) (by omega)) ?_ | refine VV.b (b_leT (by omega) (by omega)) ?_ | refine VV.b (b_leF (by omega) (by omega)) ?_ | refine VV.b (b_eqT (by omega) (by omega)) ?_ | refine VV.b (b_eqF (by omega) (by omega)) ?_ | refine VV.b (b_neT (by omega) (by omega)) ?_ | refine VV.b (b_neF (by omega) (by omega)) ?_)
      refine VV.is rfl rfl rfl (show k < 4 from hk) ?_
      rw [up_up, up_s]
      repeat (first | exact this | refine VV.g58 rfl rfl ?_ | refine VV.pf rfl rfl ?_ | refine VV.add rfl ?_ | refine VV.inc rfl rfl rfl ?_ | refine VV.mul rfl ?_ | refine VV.sub rfl (by omega) ?_ | refine VV.shl1 rfl (by omega) ?_ | refine VV.shl rfl ⟨by omega, by omega⟩ ?_ | refine VV.shr rfl ⟨by omega, by omega⟩ ?_ | refine VV.and rfl ?_ | refine VV.div rfl ⟨by omega, by omega, by omega⟩ ?_ | refine VV.rem rfl ⟨by omega, by omega, by omega⟩ ?_ | refine VV.s rfl ?_  | refine VV.b (b_ltT (by omega) (by omega)) ?_ | refine VV.b (b_ltF (by omega) (by omega)) ?_ | refine VV.b (b_geT (by omega) (by omega)) ?_ | refine VV.b (b_geF (by omega) (by omega)) ?_ | refine VV.b (b_gtT (by omega) (by omega)) ?_ | refine VV.b (b_gtF (by omega) (by omega)) ?_ | refine VV.b (b_leT (by omega) (by omega)) ?_ | refine VV.b (b_leF (by omega) (by omega)) ?_ | refine VV.b (b_eqT (by omega) (by omega)) ?_ | refine VV.b (b_eqF (by omega) (by omega)) ?_ | refine VV.b (b_neT (by omega) (by omega)) ?_ | refine VV.b (b_neF (by omega) (by omega)) ?_)
    · intro g hI
      have := q f g hf hI
      repeat (first | refine VV.g58 rfl rfl ?_ | refine VV.pf rfl rfl ?_ | refine VV.add rfl ?_ | refine VV.inc rfl rfl rfl ?_ | refine VV.mul rfl ?_ | refine VV.sub rfl (by omega) ?_ | refine VV.shl1 rfl (by omega) ?_ | refine VV.shl rfl ⟨by omega, by omega⟩ ?_ | refine VV.shr rfl ⟨by omega, by omega⟩ ?_ | refine VV.and rfl ?_ | refine VV.div rfl ⟨by omega, by omega, by omega⟩ ?_ | refine VV.rem rfl ⟨by omega, by omega, by omega⟩ ?_ | refine VV.s rfl ?_  | refine VV.b (b_ltT (by omega) (by omega)) ?_ | refine VV.b (b_ltF (by omega) (by omega)) ?_ | refine VV.b (b_geT (by omega) (by omega)) ?_ | refine VV.b (b_geF (by omega) (by omega)) ?_ | refine VV.b (b_gtT (by omega) (by omega)) ?_ | refine VV.b (b_gtF (by omega) (by omega)) ?_ | refine VV.b (b_leT (by omega) (by omega)) ?_ | refine VV.b (b_leF (by omega) (by omega)) ?_ | refine VV.b (b_eqT (by omega) (by omega)) ?_ | refine VV.b (b_eqF (by omega) (by omega)) ?_ | refine VV.b (b_neT (by omega) (by omega)) ?_ | refine VV.b (b_neF (by omega) (by omega)) ?_)
      exact VV.r rfl this
  have V := VV.inv (fun k (f : Nat → Int32) => ∀ l, l < k → f l = if l / 4 = l % 4 then nI 1 else nI 0) (fun k f => VV d M_M_begins 2 [some (.ref 58), some (.int (nI k))] [] (HH S τ (up A 59 f) B) Q) 16 ?_ ?_ 16 0 (A 59) (by omega) (fun l hl => by omega)
  · rw [up_id] at V
    repeat (first | exact V | refine VV.g58 rfl rfl ?_ | refine VV.pf rfl rfl ?_ | refine VV.add rfl ?_ | refine VV.inc rfl rfl rfl ?_ | refine VV.mul rfl ?_ | refine VV.sub rfl (by omega) ?_ | refine VV.shl1 rfl (by omega) ?_ | refine VV.shl rfl ⟨by omega, by omega⟩ ?_ | refine VV.shr rfl ⟨by omega, by omega⟩ ?_ | refine VV.and rfl ?_ | refine VV.div rfl ⟨by omega, by omega, by omega⟩ ?_ | refine VV.rem rfl ⟨by omega, by omega, by omega⟩ ?_ | refine VV.s rfl ?_  | refine VV.b (b_ltT (by omega) (by omega)) ?_ | refine VV.b (b_ltF (by omega) (by omega)) ?_ | refine VV.b (b_geT (by omega) (by omega)) ?_ | refine VV.b (b_geF (by omega) (by omega)) ?_ | refine VV.b (b_gtT (by omega) (by omega)) ?_ | refine VV.b (b_gtF (by omega) (by omega)) ?_ | refine VV.b (b_leT (by omega) (by omega)) ?_ | refine VV.b (b_leF (by omega) (by omega)) ?_ | refine VV.b (b_eqT (by omega) (by omega)) ?_ | refine VV.b (b_eqF (by omega) (by omega)) ?_ | refine VV.b (b_neT (by omega) (by omega)) ?_ | refine VV.b (b_neF (by omega) (by omega)) ?_)
  · intro k f hk hI nxt
    have := nxt (up f k (if k / 4 = k % 4 then nI 1 else nI 0)) (fun l hl => by
      by_cases e : l = k
      · rw [e, up_s]
      · rw [up_n e]; exact hI l (by omega))
    by_cases c : k / 4 = k % 4
    · rw [if_pos c] at this
      repeat (first | refine VV.g58 rfl rfl ?_ | refine VV.pf rfl rfl ?_ | refine VV.add rfl ?_ | refine VV.inc rfl rfl rfl ?_ | refine VV.mul rfl ?_ | refine VV.sub rfl (by omega) ?_ | refine VV.shl1 rfl (by omega) ?_ | refine VV.shl rfl ⟨by omega, by omega⟩ ?_ | refine VV.shr rfl ⟨by omega, by omega⟩ ?_ | refine VV.and rfl ?_ | refine VV.div rfl ⟨by omega, by omega, by omega⟩ ?_ | refine VV.rem rfl ⟨by omega, by omega, by omega⟩ ?_ | refine VV.s rfl ?_  | refine VV.b (b_ltT (by omega) (by omega)) ?_ | refine VV.b (b_ltF (by omega) (by omega)) ?_ | refine VV.b (b_geT (by omega) (by omega)) ?_ | refine VV.b (b_geF (by omega) (by omega)) ?_ | refine VV.b (b_gtT (by omega) (by omega)) ?_ | refine VV.b (b_gtF (by omega) (by omega)) ?_ | refine VV.b (b_leT (by omega) (by omega)) ?_ | refine VV.b (b_leF (by omega) (by omega)) ?_ | refine VV.b (b_eqT (by omega) (by omega)) ?_ | refine VV.b (b_eqF (by omega) (by omega)) ?_ | refine VV.b (b_neT (by omega) (by omega)) ?_ | refine VV.b (b_neF (by omega) (by omega)) ?_)
      refine VV.is rfl rfl rfl (show k < 16 from hk) ?_
      rw [up_up, up_s]
      repeat (first | exact this | refine VV.g58 rfl rfl ?_ | refine VV.pf rfl rfl ?_ | refine VV.add rfl ?_ | refine VV.inc rfl rfl rfl ?_ | refine VV.mul rfl ?_ | refine VV.sub rfl (by omega) ?_ | refine VV.shl1 rfl (by omega) ?_ | refine VV.shl rfl ⟨by omega, by omega⟩ ?_ | refine VV.shr rfl ⟨by omega, by omega⟩ ?_ | refine VV.and rfl ?_ | refine VV.div rfl ⟨by omega, by omega, by omega⟩ ?_ | refine VV.rem rfl ⟨by omega, by omega, by omega⟩ ?_ | refine VV.s rfl ?_  | refine VV.b (b_ltT (by omega) (by omega)) ?_ | refine VV.b (b_ltF (by omega) (by omega)) ?_ | refine VV.b (b_geT (by omega) (by omega)) ?_ | refine VV.b (b_geF (by omega) (by omega)) ?_ | refine VV.b (b_gtT (by omega) (by omega)) ?_ | refine VV.b (b_gtF (by omega) (by omega)) ?_ | refine VV.b (b_leT (by omega) (by omega)) ?_ | refine VV.b (b_leF (by omega) (by omega)) ?_ | refine VV.b (b_eqT (by omega) (by omega)) ?_ | refine VV.b (b_eqF (by omega) (by omega)) ?_ | refine VV.b (b_neT (by omega) (by omega)) ?_ | refine VV.b (b_neF (by omega) (by omega)) ?_)
    · rw [if_neg c] at this
      repeat (first | refine VV.g58 rfl rfl ?_ | refine VV.pf rfl rfl ?_ | refine VV.add rfl ?_ | refine VV.inc rfl rfl rfl ?_ | refine VV.mul rfl ?_ | refine VV.sub rfl (by omega) ?_ | refine VV.shl1 rfl (by omega) ?_ | refine VV.shl rfl ⟨by omega, by omega⟩ ?_ | refine VV.shr rfl ⟨by omega, by omega⟩ ?_ | refine VV.and rfl ?_ | refine VV.div rfl ⟨by omega, by omega, by omega⟩ ?_ | refine VV.rem rfl ⟨by omega, by omega, by omega⟩ ?_ | refine VV.s rfl ?_  | refine VV.b (b_ltT (by omega) (by omega)) ?_ | refine VV.b (b_ltF (by omega) (by omega)) ?_ | refine VV.b (b_geT (by omega) (by omega)) ?_ | refine VV.b (b_geF (by omega) (by omega)) ?_ | refine VV.b (b_gtT (by omega) (by omega)) ?_ | refine VV.b (b_gtF (by omega) (by omega)) ?_ | refine VV.b (b_leT (by omega) (by omega)) ?_ | refine VV.b (b_leF (by omega) (by omega)) ?_ | refine VV.b (b_eqT (by omega) (by omega)) ?_ | refine VV.b (b_eqF (by omega) (by omega)) ?_ | refine VV.b (b_neT (by omega) (by omega)) ?_ | refine VV.b (b_neF (by omega) (by omega)) ?_)
      refine VV.is rfl rfl rfl (show k < 16 from hk) ?_
      rw [up_up, up_s]
      repeat (first | exact this | refine VV.g58 rfl rfl ?_ | refine VV.pf rfl rfl ?_ | refine VV.add rfl ?_ | refine VV.inc rfl rfl rfl ?_ | refine VV.mul rfl ?_ | refine VV.sub rfl (by omega) ?_ | refine VV.shl1 rfl (by omega) ?_ | refine VV.shl rfl ⟨by omega, by omega⟩ ?_ | refine VV.shr rfl ⟨by omega, by omega⟩ ?_ | refine VV.and rfl ?_ | refine VV.div rfl ⟨by omega, by omega, by omega⟩ ?_ | refine VV.rem rfl ⟨by omega, by omega, by omega⟩ ?_ | refine VV.s rfl ?_  | refine VV.b (b_ltT (by omega) (by omega)) ?_ | refine VV.b (b_ltF (by omega) (by omega)) ?_ | refine VV.b (b_geT (by omega) (by omega)) ?_ | refine VV.b (b_geF (by omega) (by omega)) ?_ | refine VV.b (b_gtT (by omega) (by omega)) ?_ | refine VV.b (b_gtF (by omega) (by omega)) ?_ | refine VV.b (b_leT (by omega) (by omega)) ?_ | refine VV.b (b_leF (by omega) (by omega)) ?_ | refine VV.b (b_eqT (by omega) (by omega)) ?_ | refine VV.b (b_eqF (by omega) (by omega)) ?_ | refine VV.b (b_neT (by omega) (by omega)) ?_ | refine VV.b (b_neF (by omega) (by omega)) ?_)
  · intro f hI
    have := V2 f hI
    rw [show up (up A 59 f) 60 (A 60) = up A 59 f from (by rw [show A 60 = up A 59 f 60 from rfl, up_id])] at this
    repeat (first | exact this | refine VV.g58 rfl rfl ?_ | refine VV.pf rfl rfl ?_ | refine VV.add rfl ?_ | refine VV.inc rfl rfl rfl ?_ | refine VV.mul rfl ?_ | refine VV.sub rfl (by omega) ?_ | refine VV.shl1 rfl (by omega) ?_ | refine VV.shl rfl ⟨by omega, by omega⟩ ?_ | refine VV.shr rfl ⟨by omega, by omega⟩ ?_ | refine VV.and rfl ?_ | refine VV.div rfl ⟨by omega, by omega, by omega⟩ ?_ | refine VV.rem rfl ⟨by omega, by omega, by omega⟩ ?_ | refine VV.s rfl ?_  | refine VV.b (b_ltT (by omega) (by omega)) ?_ | refine VV.b (b_ltF (by omega) (by omega)) ?_ | refine VV.b (b_geT (by omega) (by omega)) ?_ | refine VV.b (b_geF (by omega) (by omega)) ?_ | refine VV.b (b_gtT (by omega) (by omega)) ?_ | refine VV.b (b_gtF (by omega) (by omega)) ?_ | refine VV.b (b_leT (by omega) (by omega)) ?_ | refine VV.b (b_leF (by omega) (by omega)) ?_ | refine VV.b (b_eqT (by omega) (by omega)) ?_ | refine VV.b (b_eqF (by omega) (by omega)) ?_ | refine VV.b (b_neT (by omega) (by omega)) ?_ | refine VV.b (b_neF (by omega) (by omega)) ?_)
theorem m_size (i : IV s) {x : Int32} : KM (d + 3) M_M_size [.ref 58, .int x] s (oSize s x) := by
  intro S τ A B Q h q
  unfold oSize at q
  have hn := h.n
  refine CC.of rfl ?_
  repeat (first | refine VV.g58n rfl rfl hn ?_ | refine VV.g58 rfl rfl ?_ | refine VV.pf rfl rfl ?_ | refine VV.add rfl ?_ | refine VV.inc rfl rfl rfl ?_ | refine VV.mul rfl ?_ | refine VV.sub rfl (by omega) ?_ | refine VV.shl1 rfl (by omega) ?_ | refine VV.shl rfl ⟨by omega, by omega⟩ ?_ | refine VV.shr rfl ⟨by omega, by omega⟩ ?_ | refine VV.and rfl ?_ | refine VV.div rfl ⟨by omega, by omega, by omega⟩ ?_ | refine VV.rem rfl ⟨by omega, by omega, by omega⟩ ?_ | refine VV.s rfl ?_  | refine VV.b (b_ltT (by omega) (by omega)) ?_ | refine VV.b (b_ltF (by omega) (by omega)) ?_ | refine VV.b (b_geT (by omega) (by omega)) ?_ | refine VV.b (b_geF (by omega) (by omega)) ?_ | refine VV.b (b_gtT (by omega) (by omega)) ?_ | refine VV.b (b_gtF (by omega) (by omega)) ?_ | refine VV.b (b_leT (by omega) (by omega)) ?_ | refine VV.b (b_leF (by omega) (by omega)) ?_ | refine VV.b (b_eqT (by omega) (by omega)) ?_ | refine VV.b (b_eqF (by omega) (by omega)) ?_ | refine VV.b (b_neT (by omega) (by omega)) ?_ | refine VV.b (b_neF (by omega) (by omega)) ?_)
  (refine VV.c rfl ?_; refine cm_in (lo := nI 2) (hi := nI 4) rfl rfl ?_)
  rcases rgB_cases (a := 2) (b := 4) (by omega) (by omega) x with ⟨e, k, h2, h4, rfl⟩ | ⟨e, hx⟩
  · rw [e]
    rw [e, if_pos rfl, nI_clamp (by omega)] at q
    show VV _ _ _ _ [.int (nI 1)] _ _
    repeat (first | refine VV.g58n rfl rfl hn ?_ | refine VV.g58 rfl rfl ?_ | refine VV.pf rfl rfl ?_ | refine VV.add rfl ?_ | refine VV.inc rfl rfl rfl ?_ | refine VV.mul rfl ?_ | refine VV.sub rfl (by omega) ?_ | refine VV.shl1 rfl (by omega) ?_ | refine VV.shl rfl ⟨by omega, by omega⟩ ?_ | refine VV.shr rfl ⟨by omega, by omega⟩ ?_ | refine VV.and rfl ?_ | refine VV.div rfl ⟨by omega, by omega, by omega⟩ ?_ | refine VV.rem rfl ⟨by omega, by omega, by omega⟩ ?_ | refine VV.s rfl ?_  | refine VV.b (b_ltT (by omega) (by omega)) ?_ | refine VV.b (b_ltF (by omega) (by omega)) ?_ | refine VV.b (b_geT (by omega) (by omega)) ?_ | refine VV.b (b_geF (by omega) (by omega)) ?_ | refine VV.b (b_gtT (by omega) (by omega)) ?_ | refine VV.b (b_gtF (by omega) (by omega)) ?_ | refine VV.b (b_leT (by omega) (by omega)) ?_ | refine VV.b (b_leF (by omega) (by omega)) ?_ | refine VV.b (b_eqT (by omega) (by omega)) ?_ | refine VV.b (b_eqF (by omega) (by omega)) ?_ | refine VV.b (b_neT (by omega) (by omega)) ?_ | refine VV.b (b_neF (by omega) (by omega)) ?_)
    repeat (first | refine VV.g58 rfl rfl ?_ | refine VV.pf rfl rfl ?_ | refine VV.add rfl ?_ | refine VV.inc rfl rfl rfl ?_ | refine VV.mul rfl ?_ | refine VV.sub rfl (by omega) ?_ | refine VV.shl1 rfl (by omega) ?_ | refine VV.shl rfl ⟨by omega, by omega⟩ ?_ | refine VV.shr rfl ⟨by omega, by omega⟩ ?_ | refine VV.and rfl ?_ | refine VV.div rfl ⟨by omega, by omega, by omega⟩ ?_ | refine VV.rem rfl ⟨by omega, by omega, by omega⟩ ?_ | refine VV.s rfl ?_  | refine VV.b (b_ltT (by omega) (by omega)) ?_ | refine VV.b (b_ltF (by omega) (by omega)) ?_ | refine VV.b (b_geT (by omega) (by omega)) ?_ | refine VV.b (b_geF (by omega) (by omega)) ?_ | refine VV.b (b_gtT (by omega) (by omega)) ?_ | refine VV.b (b_gtF (by omega) (by omega)) ?_ | refine VV.b (b_leT (by omega) (by omega)) ?_ | refine VV.b (b_leF (by omega) (by omega)) ?_ | refine VV.b (b_eqT (by omega) (by omega)) ?_ | refine VV.b (b_eqF (by omega) (by omega)) ?_ | refine VV.b (b_neT (by omega) (by omega)) ?_ | refine VV.b (b_neF (by omega) (by omega)) ?_)
    (refine VV.c rfl ?_; refine cm_begins (fun f g hf hg => ?_))
    repeat (first | refine VV.g58 rfl rfl ?_ | refine VV.pf rfl rfl ?_ | refine VV.add rfl ?_ | refine VV.inc rfl rfl rfl ?_ | refine VV.mul rfl ?_ | refine VV.sub rfl (by omega) ?_ | refine VV.shl1 rfl (by omega) ?_ | refine VV.shl rfl ⟨by omega, by omega⟩ ?_ | refine VV.shr rfl ⟨by omega, by omega⟩ ?_ | refine VV.and rfl ?_ | refine VV.div rfl ⟨by omega, by omega, by omega⟩ ?_ | refine VV.rem rfl ⟨by omega, by omega, by omega⟩ ?_ | refine VV.s rfl ?_  | refine VV.b (b_ltT (by omega) (by omega)) ?_ | refine VV.b (b_ltF (by omega) (by omega)) ?_ | refine VV.b (b_geT (by omega) (by omega)) ?_ | refine VV.b (b_geF (by omega) (by omega)) ?_ | refine VV.b (b_gtT (by omega) (by omega)) ?_ | refine VV.b (b_gtF (by omega) (by omega)) ?_ | refine VV.b (b_leT (by omega) (by omega)) ?_ | refine VV.b (b_leF (by omega) (by omega)) ?_ | refine VV.b (b_eqT (by omega) (by omega)) ?_ | refine VV.b (b_eqF (by omega) (by omega)) ?_ | refine VV.b (b_neT (by omega) (by omega)) ?_ | refine VV.b (b_neF (by omega) (by omega)) ?_)
    refine VV.r rfl (q _ _ _ (RM.mk (rfl) (fun i j hi hj => ?_) (fun i hi => ?_) (rfl) (fun k hk => absurd hk (Nat.not_lt_zero k)) (rfl) (fun k hk => absurd hk (Nat.not_lt_zero k)) h.sm h.se h.em h.ev h.bm h.bk h.tm h.tx h.ts h.tl h.ti h.im0 h.im1) (FM.ut (by decide) (FM.ut (by decide) (FM.ua (by decide) (FM.ua (by decide) (FM.ut (by decide) FM.refl))))))
    · have hi4 : i < 4 := Nat.lt_of_lt_of_le hi h4
      have hj4 : j < 4 := Nat.lt_of_lt_of_le hj h4
      show (f (4 * i + j)).toInt64 = uni (4 * i + j)
      unfold uni idm
      rw [hf _ (by omega)]
      by_cases c : (4 * i + j) / 4 = (4 * i + j) % 4
      · rw [if_pos c, if_pos c]; rfl
      · rw [if_neg c, if_neg c]; rfl
    · show (g i).toInt64 = 0
      rw [hg i hi]; rfl
  · rw [e]
    rw [e] at q
    repeat (first | refine VV.g58 rfl rfl ?_ | refine VV.pf rfl rfl ?_ | refine VV.add rfl ?_ | refine VV.inc rfl rfl rfl ?_ | refine VV.mul rfl ?_ | refine VV.sub rfl (by omega) ?_ | refine VV.shl1 rfl (by omega) ?_ | refine VV.shl rfl ⟨by omega, by omega⟩ ?_ | refine VV.shr rfl ⟨by omega, by omega⟩ ?_ | refine VV.and rfl ?_ | refine VV.div rfl ⟨by omega, by omega, by omega⟩ ?_ | refine VV.rem rfl ⟨by omega, by omega, by omega⟩ ?_ | refine VV.s rfl ?_  | refine VV.b (b_ltT (by omega) (by omega)) ?_ | refine VV.b (b_ltF (by omega) (by omega)) ?_ | refine VV.b (b_geT (by omega) (by omega)) ?_ | refine VV.b (b_geF (by omega) (by omega)) ?_ | refine VV.b (b_gtT (by omega) (by omega)) ?_ | refine VV.b (b_gtF (by omega) (by omega)) ?_ | refine VV.b (b_leT (by omega) (by omega)) ?_ | refine VV.b (b_leF (by omega) (by omega)) ?_ | refine VV.b (b_eqT (by omega) (by omega)) ?_ | refine VV.b (b_eqF (by omega) (by omega)) ?_ | refine VV.b (b_neT (by omega) (by omega)) ?_ | refine VV.b (b_neF (by omega) (by omega)) ?_)
    exact VV.r rfl (q τ A B h FM.refl)
theorem m_set (i : IV s) {x v : Int32} : KM (d + 3) M_M_set [.ref 58, .int x, .int v] s (oSet s x v) := by
  intro S τ A B Q h q
  unfold oSet at q
  have hn := h.n
  have h4 := i.c.n4
  refine CC.of rfl ?_
  repeat (first | refine VV.g58 rfl rfl ?_ | refine VV.pf rfl rfl ?_ | refine VV.add rfl ?_ | refine VV.inc rfl rfl rfl ?_ | refine VV.mul rfl ?_ | refine VV.sub rfl (by omega) ?_ | refine VV.shl1 rfl (by omega) ?_ | refine VV.shl rfl ⟨by omega, by omega⟩ ?_ | refine VV.shr rfl ⟨by omega, by omega⟩ ?_ | refine VV.and rfl ?_ | refine VV.div rfl ⟨by omega, by omega, by omega⟩ ?_ | refine VV.rem rfl ⟨by omega, by omega, by omega⟩ ?_ | refine VV.s rfl ?_  | refine VV.b (b_ltT (by omega) (by omega)) ?_ | refine VV.b (b_ltF (by omega) (by omega)) ?_ | refine VV.b (b_geT (by omega) (by omega)) ?_ | refine VV.b (b_geF (by omega) (by omega)) ?_ | refine VV.b (b_gtT (by omega) (by omega)) ?_ | refine VV.b (b_gtF (by omega) (by omega)) ?_ | refine VV.b (b_leT (by omega) (by omega)) ?_ | refine VV.b (b_leF (by omega) (by omega)) ?_ | refine VV.b (b_eqT (by omega) (by omega)) ?_ | refine VV.b (b_eqF (by omega) (by omega)) ?_ | refine VV.b (b_neT (by omega) (by omega)) ?_ | refine VV.b (b_neF (by omega) (by omega)) ?_)
  (refine VV.c rfl ?_; refine cm_isSpot hn h4 ?_)
  cases hb : spB s.c.n x with
  | false =>
    rw [hb] at q
    repeat (first | refine VV.g58 rfl rfl ?_ | refine VV.pf rfl rfl ?_ | refine VV.add rfl ?_ | refine VV.inc rfl rfl rfl ?_ | refine VV.mul rfl ?_ | refine VV.sub rfl (by omega) ?_ | refine VV.shl1 rfl (by omega) ?_ | refine VV.shl rfl ⟨by omega, by omega⟩ ?_ | refine VV.shr rfl ⟨by omega, by omega⟩ ?_ | refine VV.and rfl ?_ | refine VV.div rfl ⟨by omega, by omega, by omega⟩ ?_ | refine VV.rem rfl ⟨by omega, by omega, by omega⟩ ?_ | refine VV.s rfl ?_  | refine VV.b (b_ltT (by omega) (by omega)) ?_ | refine VV.b (b_ltF (by omega) (by omega)) ?_ | refine VV.b (b_geT (by omega) (by omega)) ?_ | refine VV.b (b_geF (by omega) (by omega)) ?_ | refine VV.b (b_gtT (by omega) (by omega)) ?_ | refine VV.b (b_gtF (by omega) (by omega)) ?_ | refine VV.b (b_leT (by omega) (by omega)) ?_ | refine VV.b (b_leF (by omega) (by omega)) ?_ | refine VV.b (b_eqT (by omega) (by omega)) ?_ | refine VV.b (b_eqF (by omega) (by omega)) ?_ | refine VV.b (b_neT (by omega) (by omega)) ?_ | refine VV.b (b_neF (by omega) (by omega)) ?_)
    exact VV.r rfl (q τ A B h FM.refl)
  | true =>
    rw [hb, if_pos rfl] at q
    obtain ⟨a, b, ha, hb10, hbn, rfl, hab⟩ := spB_spec hb
    rw [cel_nI hb10 hab] at q
    show VV _ _ _ _ [.int (nI 1)] _ _
    repeat (first | refine VV.g58 rfl rfl ?_ | refine VV.pf rfl rfl ?_ | refine VV.add rfl ?_ | refine VV.inc rfl rfl rfl ?_ | refine VV.mul rfl ?_ | refine VV.sub rfl (by omega) ?_ | refine VV.shl1 rfl (by omega) ?_ | refine VV.shl rfl ⟨by omega, by omega⟩ ?_ | refine VV.shr rfl ⟨by omega, by omega⟩ ?_ | refine VV.and rfl ?_ | refine VV.div rfl ⟨by omega, by omega, by omega⟩ ?_ | refine VV.rem rfl ⟨by omega, by omega, by omega⟩ ?_ | refine VV.s rfl ?_  | refine VV.b (b_ltT (by omega) (by omega)) ?_ | refine VV.b (b_ltF (by omega) (by omega)) ?_ | refine VV.b (b_geT (by omega) (by omega)) ?_ | refine VV.b (b_geF (by omega) (by omega)) ?_ | refine VV.b (b_gtT (by omega) (by omega)) ?_ | refine VV.b (b_gtF (by omega) (by omega)) ?_ | refine VV.b (b_leT (by omega) (by omega)) ?_ | refine VV.b (b_leF (by omega) (by omega)) ?_ | refine VV.b (b_eqT (by omega) (by omega)) ?_ | refine VV.b (b_eqF (by omega) (by omega)) ?_ | refine VV.b (b_neT (by omega) (by omega)) ?_ | refine VV.b (b_neF (by omega) (by omega)) ?_)
    (refine VV.c rfl ?_; refine cm_in (lo := -(nI 99)) (hi := nI 99) rfl rfl ?_)
    cases hr : rgB (-(nI 99)) (nI 99) v with
    | false =>
      rw [hr] at q
      repeat (first | refine VV.g58 rfl rfl ?_ | refine VV.pf rfl rfl ?_ | refine VV.add rfl ?_ | refine VV.inc rfl rfl rfl ?_ | refine VV.mul rfl ?_ | refine VV.sub rfl (by omega) ?_ | refine VV.shl1 rfl (by omega) ?_ | refine VV.shl rfl ⟨by omega, by omega⟩ ?_ | refine VV.shr rfl ⟨by omega, by omega⟩ ?_ | refine VV.and rfl ?_ | refine VV.div rfl ⟨by omega, by omega, by omega⟩ ?_ | refine VV.rem rfl ⟨by omega, by omega, by omega⟩ ?_ | refine VV.s rfl ?_  | refine VV.b (b_ltT (by omega) (by omega)) ?_ | refine VV.b (b_ltF (by omega) (by omega)) ?_ | refine VV.b (b_geT (by omega) (by omega)) ?_ | refine VV.b (b_geF (by omega) (by omega)) ?_ | refine VV.b (b_gtT (by omega) (by omega)) ?_ | refine VV.b (b_gtF (by omega) (by omega)) ?_ | refine VV.b (b_leT (by omega) (by omega)) ?_ | refine VV.b (b_leF (by omega) (by omega)) ?_ | refine VV.b (b_eqT (by omega) (by omega)) ?_ | refine VV.b (b_eqF (by omega) (by omega)) ?_ | refine VV.b (b_neT (by omega) (by omega)) ?_ | refine VV.b (b_neF (by omega) (by omega)) ?_)
      exact VV.r rfl (q τ A B h FM.refl)
    | true =>
      rw [hr, if_pos rfl, ← h.E a b ha hbn, rz_t] at q
      show VV _ _ _ _ [.int (nI 1)] _ _
      repeat (first | refine VV.g58 rfl rfl ?_ | refine VV.pf rfl rfl ?_ | refine VV.add rfl ?_ | refine VV.inc rfl rfl rfl ?_ | refine VV.mul rfl ?_ | refine VV.sub rfl (by omega) ?_ | refine VV.shl1 rfl (by omega) ?_ | refine VV.shl rfl ⟨by omega, by omega⟩ ?_ | refine VV.shr rfl ⟨by omega, by omega⟩ ?_ | refine VV.and rfl ?_ | refine VV.div rfl ⟨by omega, by omega, by omega⟩ ?_ | refine VV.rem rfl ⟨by omega, by omega, by omega⟩ ?_ | refine VV.s rfl ?_  | refine VV.b (b_ltT (by omega) (by omega)) ?_ | refine VV.b (b_ltF (by omega) (by omega)) ?_ | refine VV.b (b_geT (by omega) (by omega)) ?_ | refine VV.b (b_geF (by omega) (by omega)) ?_ | refine VV.b (b_gtT (by omega) (by omega)) ?_ | refine VV.b (b_gtF (by omega) (by omega)) ?_ | refine VV.b (b_leT (by omega) (by omega)) ?_ | refine VV.b (b_leF (by omega) (by omega)) ?_ | refine VV.b (b_eqT (by omega) (by omega)) ?_ | refine VV.b (b_eqF (by omega) (by omega)) ?_ | refine VV.b (b_neT (by omega) (by omega)) ?_ | refine VV.b (b_neF (by omega) (by omega)) ?_)
      (refine VV.c rfl ?_; refine cm_cell (show a < 4 by omega) (show b < 4 by omega) ?_)
      refine VV.ia rfl rfl rfl (show 4 * a + b < 16 by omega) ?_
      repeat (first | refine VV.g58 rfl rfl ?_ | refine VV.pf rfl rfl ?_ | refine VV.add rfl ?_ | refine VV.inc rfl rfl rfl ?_ | refine VV.mul rfl ?_ | refine VV.sub rfl (by omega) ?_ | refine VV.shl1 rfl (by omega) ?_ | refine VV.shl rfl ⟨by omega, by omega⟩ ?_ | refine VV.shr rfl ⟨by omega, by omega⟩ ?_ | refine VV.and rfl ?_ | refine VV.div rfl ⟨by omega, by omega, by omega⟩ ?_ | refine VV.rem rfl ⟨by omega, by omega, by omega⟩ ?_ | refine VV.s rfl ?_  | refine VV.b (b_ltT (by omega) (by omega)) ?_ | refine VV.b (b_ltF (by omega) (by omega)) ?_ | refine VV.b (b_geT (by omega) (by omega)) ?_ | refine VV.b (b_geF (by omega) (by omega)) ?_ | refine VV.b (b_gtT (by omega) (by omega)) ?_ | refine VV.b (b_gtF (by omega) (by omega)) ?_ | refine VV.b (b_leT (by omega) (by omega)) ?_ | refine VV.b (b_leF (by omega) (by omega)) ?_ | refine VV.b (b_eqT (by omega) (by omega)) ?_ | refine VV.b (b_eqF (by omega) (by omega)) ?_ | refine VV.b (b_neT (by omega) (by omega)) ?_ | refine VV.b (b_neF (by omega) (by omega)) ?_)
      (refine VV.c rfl ?_; refine cm_cell (show a < 4 by omega) (show b < 4 by omega) ?_)
      repeat (first | refine VV.g58 rfl rfl ?_ | refine VV.pf rfl rfl ?_ | refine VV.add rfl ?_ | refine VV.inc rfl rfl rfl ?_ | refine VV.mul rfl ?_ | refine VV.sub rfl (by omega) ?_ | refine VV.shl1 rfl (by omega) ?_ | refine VV.shl rfl ⟨by omega, by omega⟩ ?_ | refine VV.shr rfl ⟨by omega, by omega⟩ ?_ | refine VV.and rfl ?_ | refine VV.div rfl ⟨by omega, by omega, by omega⟩ ?_ | refine VV.rem rfl ⟨by omega, by omega, by omega⟩ ?_ | refine VV.s rfl ?_  | refine VV.b (b_ltT (by omega) (by omega)) ?_ | refine VV.b (b_ltF (by omega) (by omega)) ?_ | refine VV.b (b_geT (by omega) (by omega)) ?_ | refine VV.b (b_geF (by omega) (by omega)) ?_ | refine VV.b (b_gtT (by omega) (by omega)) ?_ | refine VV.b (b_gtF (by omega) (by omega)) ?_ | refine VV.b (b_leT (by omega) (by omega)) ?_ | refine VV.b (b_leF (by omega) (by omega)) ?_ | refine VV.b (b_eqT (by omega) (by omega)) ?_ | refine VV.b (b_eqF (by omega) (by omega)) ?_ | refine VV.b (b_neT (by omega) (by omega)) ?_ | refine VV.b (b_neF (by omega) (by omega)) ?_)
      refine VV.is rfl rfl rfl (show 4 * a + b < 16 by omega) ?_
      repeat (first | refine VV.g58 rfl rfl ?_ | refine VV.pf rfl rfl ?_ | refine VV.add rfl ?_ | refine VV.inc rfl rfl rfl ?_ | refine VV.mul rfl ?_ | refine VV.sub rfl (by omega) ?_ | refine VV.shl1 rfl (by omega) ?_ | refine VV.shl rfl ⟨by omega, by omega⟩ ?_ | refine VV.shr rfl ⟨by omega, by omega⟩ ?_ | refine VV.and rfl ?_ | refine VV.div rfl ⟨by omega, by omega, by omega⟩ ?_ | refine VV.rem rfl ⟨by omega, by omega, by omega⟩ ?_ | refine VV.s rfl ?_  | refine VV.b (b_ltT (by omega) (by omega)) ?_ | refine VV.b (b_ltF (by omega) (by omega)) ?_ | refine VV.b (b_geT (by omega) (by omega)) ?_ | refine VV.b (b_geF (by omega) (by omega)) ?_ | refine VV.b (b_gtT (by omega) (by omega)) ?_ | refine VV.b (b_gtF (by omega) (by omega)) ?_ | refine VV.b (b_leT (by omega) (by omega)) ?_ | refine VV.b (b_leF (by omega) (by omega)) ?_ | refine VV.b (b_eqT (by omega) (by omega)) ?_ | refine VV.b (b_eqF (by omega) (by omega)) ?_ | refine VV.b (b_neT (by omega) (by omega)) ?_ | refine VV.b (b_neF (by omega) (by omega)) ?_)
      refine VV.r rfl (q _ _ _ (RM.mk h.n (fun k l hk hl => ?_) h.V h.cm h.ck (rfl) (fun k hk => absurd hk (Nat.not_lt_zero k)) h.sm h.se h.em h.ev h.bm h.bk h.tm h.tx h.ts h.tl h.ti h.im0 h.im1) (FM.ut (by decide) (FM.ua (by decide) FM.refl)))
      show (up (A 59) (4 * a + b) v (4 * k + l)).toInt64 = up s.c.E (4 * a + b) v.toInt64 (4 * k + l)
      by_cases e : 4 * k + l = 4 * a + b
      · rw [e, up_s, up_s]
      · rw [up_n e, up_n e]
        exact h.E k l hk hl
end M1
