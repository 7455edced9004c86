/-! the class's calls: shift, judge -/
section JD
variable {S : Cl} {τ : Nat → Int32} {A : Nat → Nat → Int32} {B : Nat → Nat → Int64}
variable {d : Nat} {Q : Option Value → Hp → Prop}
set_option maxHeartbeats 1000000 in
theorem cx_judgeNumbers {T h n : Nat} (h6 : T < 6) (hh : τ (100 * (46 + 2 * T) + 2) = nI h) (h60 : h ≤ 60) (hn : τ (100 * 3 + 2) = nI n) (h1 : 1 ≤ n) (h4 : n ≤ 4) {x : Int32} (q : Q (some (.int (if x < nI 0 then nI 100 else jdg n h x.toNatClampNeg (B 4) (B (47 + 2 * T)) (n * n) 0))) (HH S τ A B)) : CC (d + 2) M_T_judgeNumbers [.ref 1, .ref (46 + 2 * T), .int x] (HH S τ A B) Q := by
  have hT := tabT_ok h6
  refine CC.of rfl ?_
  rcases nI_or x with hx | ⟨p, hp, rfl⟩
  · rw [if_pos (show x < nI 0 from hx)] at q
    repeat (first | refine VV.add rfl ?_ | refine VV.inc rfl rfl rfl ?_ | refine VV.mul rfl ?_ | refine VV.sub rfl (by omega) ?_ | refine VV.shl1 rfl (by omega) ?_ | refine VV.shl rfl ⟨by omega, by omega⟩ ?_ | refine VV.shr rfl ⟨by omega, by omega⟩ ?_ | refine VV.and rfl ?_ | refine VV.div rfl ⟨by omega, by omega, by omega⟩ ?_ | refine VV.rem rfl ⟨by omega, by omega, by omega⟩ ?_ | refine VV.s rfl ?_  | refine VV.b (b_ltT (by omega) (by omega)) ?_ | refine VV.b (b_ltF (by omega) (by omega)) ?_ | refine VV.b (b_geT (by omega) (by omega)) ?_ | refine VV.b (b_geF (by omega) (by omega)) ?_ | refine VV.b (b_gtT (by omega) (by omega)) ?_ | refine VV.b (b_gtF (by omega) (by omega)) ?_ | refine VV.b (b_leT (by omega) (by omega)) ?_ | refine VV.b (b_leF (by omega) (by omega)) ?_ | refine VV.b (b_eqT (by omega) (by omega)) ?_ | refine VV.b (b_eqF (by omega) (by omega)) ?_ | refine VV.b (b_neT (by omega) (by omega)) ?_ | refine VV.b (b_neF (by omega) (by omega)) ?_)
    (refine VV.c rfl ?_; refine c_lines (g := 3) rfl hn h4 ?_)
    repeat (first | refine VV.add rfl ?_ | refine VV.inc rfl rfl rfl ?_ | refine VV.mul rfl ?_ | refine VV.sub rfl (by omega) ?_ | refine VV.shl1 rfl (by omega) ?_ | refine VV.shl rfl ⟨by omega, by omega⟩ ?_ | refine VV.shr rfl ⟨by omega, by omega⟩ ?_ | refine VV.and rfl ?_ | refine VV.div rfl ⟨by omega, by omega, by omega⟩ ?_ | refine VV.rem rfl ⟨by omega, by omega, by omega⟩ ?_ | refine VV.s rfl ?_  | refine VV.b (b_ltT (by omega) (by omega)) ?_ | refine VV.b (b_ltF (by omega) (by omega)) ?_ | refine VV.b (b_geT (by omega) (by omega)) ?_ | refine VV.b (b_geF (by omega) (by omega)) ?_ | refine VV.b (b_gtT (by omega) (by omega)) ?_ | refine VV.b (b_gtF (by omega) (by omega)) ?_ | refine VV.b (b_leT (by omega) (by omega)) ?_ | refine VV.b (b_leF (by omega) (by omega)) ?_ | refine VV.b (b_eqT (by omega) (by omega)) ?_ | refine VV.b (b_eqF (by omega) (by omega)) ?_ | refine VV.b (b_neT (by omega) (by omega)) ?_ | refine VV.b (b_neF (by omega) (by omega)) ?_)
    (refine VV.c rfl ?_; refine c_lines (g := 3) rfl hn h4 ?_)
    repeat (first | refine VV.add rfl ?_ | refine VV.inc rfl rfl rfl ?_ | refine VV.mul rfl ?_ | refine VV.sub rfl (by omega) ?_ | refine VV.shl1 rfl (by omega) ?_ | refine VV.shl rfl ⟨by omega, by omega⟩ ?_ | refine VV.shr rfl ⟨by omega, by omega⟩ ?_ | refine VV.and rfl ?_ | refine VV.div rfl ⟨by omega, by omega, by omega⟩ ?_ | refine VV.rem rfl ⟨by omega, by omega, by omega⟩ ?_ | refine VV.s rfl ?_  | refine VV.b (b_ltT (by omega) (by omega)) ?_ | refine VV.b (b_ltF (by omega) (by omega)) ?_ | refine VV.b (b_geT (by omega) (by omega)) ?_ | refine VV.b (b_geF (by omega) (by omega)) ?_ | refine VV.b (b_gtT (by omega) (by omega)) ?_ | refine VV.b (b_gtF (by omega) (by omega)) ?_ | refine VV.b (b_leT (by omega) (by omega)) ?_ | refine VV.b (b_leF (by omega) (by omega)) ?_ | refine VV.b (b_eqT (by omega) (by omega)) ?_ | refine VV.b (b_eqF (by omega) (by omega)) ?_ | refine VV.b (b_neT (by omega) (by omega)) ?_ | refine VV.b (b_neF (by omega) (by omega)) ?_)
    rw [show x + nI 0 = x from Int32.add_zero x]
    (refine VV.cv rfl (rdT hT).1 ?_; refine ct_hasPlaces hT hh h60 ?_)
    rw [hpB_negx hx]
    repeat (first | refine VV.add rfl ?_ | refine VV.inc rfl rfl rfl ?_ | refine VV.mul rfl ?_ | refine VV.sub rfl (by omega) ?_ | refine VV.shl1 rfl (by omega) ?_ | refine VV.shl rfl ⟨by omega, by omega⟩ ?_ | refine VV.shr rfl ⟨by omega, by omega⟩ ?_ | refine VV.and rfl ?_ | refine VV.div rfl ⟨by omega, by omega, by omega⟩ ?_ | refine VV.rem rfl ⟨by omega, by omega, by omega⟩ ?_ | refine VV.s rfl ?_  | refine VV.b (b_ltT (by omega) (by omega)) ?_ | refine VV.b (b_ltF (by omega) (by omega)) ?_ | refine VV.b (b_geT (by omega) (by omega)) ?_ | refine VV.b (b_geF (by omega) (by omega)) ?_ | refine VV.b (b_gtT (by omega) (by omega)) ?_ | refine VV.b (b_gtF (by omega) (by omega)) ?_ | refine VV.b (b_leT (by omega) (by omega)) ?_ | refine VV.b (b_leF (by omega) (by omega)) ?_ | refine VV.b (b_eqT (by omega) (by omega)) ?_ | refine VV.b (b_eqF (by omega) (by omega)) ?_ | refine VV.b (b_neT (by omega) (by omega)) ?_ | refine VV.b (b_neF (by omega) (by omega)) ?_)
    exact VV.r rfl q
  rw [if_neg (fun z => absurd ((nI_ltI hp (by omega)).mp z) (by omega)), nI_clamp hp] at q
  have hR : ∀ k, k < n * n → jdg n h p (B 4) (B (47 + 2 * T)) (n * n - k) k = if h ≤ p + k then nI (100 + k) else if B (47 + 2 * T) (p + k) = B 4 (4 * (k / n) + k % n) then jdg n h p (B 4) (B (47 + 2 * T)) (n * n - (k + 1)) (k + 1) else nI (10 * (k / n) + k % n) := by
    intro k hk
    rw [show n * n - k = n * n - (k + 1) + 1 by omega, jdg]
  have inner : ∀ i, i < n → ∀ m j, j + m = n → p + (i * n + j) < 2147483648 → ∀ x6, Q (some (.int (jdg n h p (B 4) (B (47 + 2 * T)) (n * n - (i * n + j)) (i * n + j)))) (HH S τ A B) → (∀ x6, p + (i * n + n) < 2147483648 → Q (some (.int (jdg n h p (B 4) (B (47 + 2 * T)) (n * n - (i * n + n)) (i * n + n)))) (HH S τ A B) → VV (d + 2) M_T_judgeNumbers 100 [some (.ref 1), some (.ref (46 + 2 * T)), some (.int (nI p)), some (.int (nI (i * n + n))), some (.int (nI i)), some (.int (nI n)), x6] [] (HH S τ A B) Q) → VV (d + 2) M_T_judgeNumbers 23 [some (.ref 1), some (.ref (46 + 2 * T)), some (.int (nI p)), some (.int (nI (i * n + j))), some (.int (nI i)), some (.int (nI j)), x6] [] (HH S τ A B) Q := by
    intro i hi m
    induction m with
    | zero =>
      intro j hj hl x6 q1 fin
      have e : j = n := by omega
      subst e
      have := fin x6 hl q1
      repeat (first | refine VV.add rfl ?_ | refine VV.inc rfl rfl rfl ?_ | refine VV.mul rfl ?_ | refine VV.sub rfl (by omega) ?_ | refine VV.shl1 rfl (by omega) ?_ | refine VV.shl rfl ⟨by omega, by omega⟩ ?_ | refine VV.shr rfl ⟨by omega, by omega⟩ ?_ | refine VV.and rfl ?_ | refine VV.div rfl ⟨by omega, by omega, by omega⟩ ?_ | refine VV.rem rfl ⟨by omega, by omega, by omega⟩ ?_ | refine VV.s rfl ?_  | refine VV.b (b_ltT (by omega) (by omega)) ?_ | refine VV.b (b_ltF (by omega) (by omega)) ?_ | refine VV.b (b_geT (by omega) (by omega)) ?_ | refine VV.b (b_geF (by omega) (by omega)) ?_ | refine VV.b (b_gtT (by omega) (by omega)) ?_ | refine VV.b (b_gtF (by omega) (by omega)) ?_ | refine VV.b (b_leT (by omega) (by omega)) ?_ | refine VV.b (b_leF (by omega) (by omega)) ?_ | refine VV.b (b_eqT (by omega) (by omega)) ?_ | refine VV.b (b_eqF (by omega) (by omega)) ?_ | refine VV.b (b_neT (by omega) (by omega)) ?_ | refine VV.b (b_neF (by omega) (by omega)) ?_)
      (refine VV.c rfl ?_; refine c_lines (g := 3) rfl hn h4 ?_)
      repeat (first | exact this | refine VV.add rfl ?_ | refine VV.inc rfl rfl rfl ?_ | refine VV.mul rfl ?_ | refine VV.sub rfl (by omega) ?_ | refine VV.shl1 rfl (by omega) ?_ | refine VV.shl rfl ⟨by omega, by omega⟩ ?_ | refine VV.shr rfl ⟨by omega, by omega⟩ ?_ | refine VV.and rfl ?_ | refine VV.div rfl ⟨by omega, by omega, by omega⟩ ?_ | refine VV.rem rfl ⟨by omega, by omega, by omega⟩ ?_ | refine VV.s rfl ?_  | refine VV.b (b_ltT (by omega) (by omega)) ?_ | refine VV.b (b_ltF (by omega) (by omega)) ?_ | refine VV.b (b_geT (by omega) (by omega)) ?_ | refine VV.b (b_geF (by omega) (by omega)) ?_ | refine VV.b (b_gtT (by omega) (by omega)) ?_ | refine VV.b (b_gtF (by omega) (by omega)) ?_ | refine VV.b (b_leT (by omega) (by omega)) ?_ | refine VV.b (b_leF (by omega) (by omega)) ?_ | refine VV.b (b_eqT (by omega) (by omega)) ?_ | refine VV.b (b_eqF (by omega) (by omega)) ?_ | refine VV.b (b_neT (by omega) (by omega)) ?_ | refine VV.b (b_neF (by omega) (by omega)) ?_)
    | succ m ih =>
      intro j hj hl x6 q1 fin
      have hjn : j < n := by omega
      have hlt : i * n + j < n * n := by
        have := Nat.mul_le_mul_right n (show i + 1 ≤ n by omega)
        rw [Nat.succ_mul] at this
        omega
      have e1 : (i * n + j) / n = i := by rw [Nat.mul_comm i n, Nat.mul_add_div (by omega), Nat.div_eq_of_lt hjn, Nat.add_zero]
      have e2 : (i * n + j) % n = j := by rw [Nat.mul_comm i n, Nat.mul_add_mod, Nat.mod_eq_of_lt hjn]
      rw [hR _ hlt, e1, e2] at q1
      repeat (first | refine VV.add rfl ?_ | refine VV.inc rfl rfl rfl ?_ | refine VV.mul rfl ?_ | refine VV.sub rfl (by omega) ?_ | refine VV.shl1 rfl (by omega) ?_ | refine VV.shl rfl ⟨by omega, by omega⟩ ?_ | refine VV.shr rfl ⟨by omega, by omega⟩ ?_ | refine VV.and rfl ?_ | refine VV.div rfl ⟨by omega, by omega, by omega⟩ ?_ | refine VV.rem rfl ⟨by omega, by omega, by omega⟩ ?_ | refine VV.s rfl ?_  | refine VV.b (b_ltT (by omega) (by omega)) ?_ | refine VV.b (b_ltF (by omega) (by omega)) ?_ | refine VV.b (b_geT (by omega) (by omega)) ?_ | refine VV.b (b_geF (by omega) (by omega)) ?_ | refine VV.b (b_gtT (by omega) (by omega)) ?_ | refine VV.b (b_gtF (by omega) (by omega)) ?_ | refine VV.b (b_leT (by omega) (by omega)) ?_ | refine VV.b (b_leF (by omega) (by omega)) ?_ | refine VV.b (b_eqT (by omega) (by omega)) ?_ | refine VV.b (b_eqF (by omega) (by omega)) ?_ | refine VV.b (b_neT (by omega) (by omega)) ?_ | refine VV.b (b_neF (by omega) (by omega)) ?_)
      (refine VV.c rfl ?_; refine c_lines (g := 3) rfl hn h4 ?_)
      repeat (first | refine VV.add rfl ?_ | refine VV.inc rfl rfl rfl ?_ | refine VV.mul rfl ?_ | refine VV.sub rfl (by omega) ?_ | refine VV.shl1 rfl (by omega) ?_ | refine VV.shl rfl ⟨by omega, by omega⟩ ?_ | refine VV.shr rfl ⟨by omega, by omega⟩ ?_ | refine VV.and rfl ?_ | refine VV.div rfl ⟨by omega, by omega, by omega⟩ ?_ | refine VV.rem rfl ⟨by omega, by omega, by omega⟩ ?_ | refine VV.s rfl ?_  | refine VV.b (b_ltT (by omega) (by omega)) ?_ | refine VV.b (b_ltF (by omega) (by omega)) ?_ | refine VV.b (b_geT (by omega) (by omega)) ?_ | refine VV.b (b_geF (by omega) (by omega)) ?_ | refine VV.b (b_gtT (by omega) (by omega)) ?_ | refine VV.b (b_gtF (by omega) (by omega)) ?_ | refine VV.b (b_leT (by omega) (by omega)) ?_ | refine VV.b (b_leF (by omega) (by omega)) ?_ | refine VV.b (b_eqT (by omega) (by omega)) ?_ | refine VV.b (b_eqF (by omega) (by omega)) ?_ | refine VV.b (b_neT (by omega) (by omega)) ?_ | refine VV.b (b_neF (by omega) (by omega)) ?_)
      (refine VV.cv rfl (rdT hT).1 ?_; refine ct_hasPlaces hT hh h60 ?_)
      rw [hpB_nI hl (by omega)]
      by_cases c : h ≤ p + (i * n + j)
      · rw [if_pos c] at q1
        rw [decide_eq_false (show ¬ p + (i * n + j) + 1 ≤ h by omega)]
        repeat (first | refine VV.add rfl ?_ | refine VV.inc rfl rfl rfl ?_ | refine VV.mul rfl ?_ | refine VV.sub rfl (by omega) ?_ | refine VV.shl1 rfl (by omega) ?_ | refine VV.shl rfl ⟨by omega, by omega⟩ ?_ | refine VV.shr rfl ⟨by omega, by omega⟩ ?_ | refine VV.and rfl ?_ | refine VV.div rfl ⟨by omega, by omega, by omega⟩ ?_ | refine VV.rem rfl ⟨by omega, by omega, by omega⟩ ?_ | refine VV.s rfl ?_  | refine VV.b (b_ltT (by omega) (by omega)) ?_ | refine VV.b (b_ltF (by omega) (by omega)) ?_ | refine VV.b (b_geT (by omega) (by omega)) ?_ | refine VV.b (b_geF (by omega) (by omega)) ?_ | refine VV.b (b_gtT (by omega) (by omega)) ?_ | refine VV.b (b_gtF (by omega) (by omega)) ?_ | refine VV.b (b_leT (by omega) (by omega)) ?_ | refine VV.b (b_leF (by omega) (by omega)) ?_ | refine VV.b (b_eqT (by omega) (by omega)) ?_ | refine VV.b (b_eqF (by omega) (by omega)) ?_ | refine VV.b (b_neT (by omega) (by omega)) ?_ | refine VV.b (b_neF (by omega) (by omega)) ?_)
        exact VV.r rfl q1
      · rw [if_neg c] at q1
        rw [decide_eq_true (show p + (i * n + j) + 1 ≤ h by omega)]
        repeat (first | refine VV.add rfl ?_ | refine VV.inc rfl rfl rfl ?_ | refine VV.mul rfl ?_ | refine VV.sub rfl (by omega) ?_ | refine VV.shl1 rfl (by omega) ?_ | refine VV.shl rfl ⟨by omega, by omega⟩ ?_ | refine VV.shr rfl ⟨by omega, by omega⟩ ?_ | refine VV.and rfl ?_ | refine VV.div rfl ⟨by omega, by omega, by omega⟩ ?_ | refine VV.rem rfl ⟨by omega, by omega, by omega⟩ ?_ | refine VV.s rfl ?_  | refine VV.b (b_ltT (by omega) (by omega)) ?_ | refine VV.b (b_ltF (by omega) (by omega)) ?_ | refine VV.b (b_geT (by omega) (by omega)) ?_ | refine VV.b (b_geF (by omega) (by omega)) ?_ | refine VV.b (b_gtT (by omega) (by omega)) ?_ | refine VV.b (b_gtF (by omega) (by omega)) ?_ | refine VV.b (b_leT (by omega) (by omega)) ?_ | refine VV.b (b_leF (by omega) (by omega)) ?_ | refine VV.b (b_eqT (by omega) (by omega)) ?_ | refine VV.b (b_eqF (by omega) (by omega)) ?_ | refine VV.b (b_neT (by omega) (by omega)) ?_ | refine VV.b (b_neF (by omega) (by omega)) ?_)
        (refine VV.cv rfl (rdT hT).1 ?_; refine ct_at hT hh h60 (by omega) ?_)
        rw [show 46 + 2 * T + 1 = 47 + 2 * T by omega]
        repeat (first | refine VV.add rfl ?_ | refine VV.inc rfl rfl rfl ?_ | refine VV.mul rfl ?_ | refine VV.sub rfl (by omega) ?_ | refine VV.shl1 rfl (by omega) ?_ | refine VV.shl rfl ⟨by omega, by omega⟩ ?_ | refine VV.shr rfl ⟨by omega, by omega⟩ ?_ | refine VV.and rfl ?_ | refine VV.div rfl ⟨by omega, by omega, by omega⟩ ?_ | refine VV.rem rfl ⟨by omega, by omega, by omega⟩ ?_ | refine VV.s rfl ?_  | refine VV.b (b_ltT (by omega) (by omega)) ?_ | refine VV.b (b_ltF (by omega) (by omega)) ?_ | refine VV.b (b_geT (by omega) (by omega)) ?_ | refine VV.b (b_geF (by omega) (by omega)) ?_ | refine VV.b (b_gtT (by omega) (by omega)) ?_ | refine VV.b (b_gtF (by omega) (by omega)) ?_ | refine VV.b (b_leT (by omega) (by omega)) ?_ | refine VV.b (b_leF (by omega) (by omega)) ?_ | refine VV.b (b_eqT (by omega) (by omega)) ?_ | refine VV.b (b_eqF (by omega) (by omega)) ?_ | refine VV.b (b_neT (by omega) (by omega)) ?_ | refine VV.b (b_neF (by omega) (by omega)) ?_)
        (refine VV.c rfl ?_; refine c_at (g := 3) rfl hn h4 hi hjn ?_)
        repeat refine VV.s rfl ?_
        refine VV.ceq (fun c2 => ?_) (fun c2 => ?_)
        · rw [if_pos c2] at q1
          have := ih (j + 1) (by omega) (by omega) (some (.int (nI (p + (i * n + j))))) q1 fin
          repeat (first | exact this | refine VV.add rfl ?_ | refine VV.inc rfl rfl rfl ?_ | refine VV.mul rfl ?_ | refine VV.sub rfl (by omega) ?_ | refine VV.shl1 rfl (by omega) ?_ | refine VV.shl rfl ⟨by omega, by omega⟩ ?_ | refine VV.shr rfl ⟨by omega, by omega⟩ ?_ | refine VV.and rfl ?_ | refine VV.div rfl ⟨by omega, by omega, by omega⟩ ?_ | refine VV.rem rfl ⟨by omega, by omega, by omega⟩ ?_ | refine VV.s rfl ?_  | refine VV.b (b_ltT (by omega) (by omega)) ?_ | refine VV.b (b_ltF (by omega) (by omega)) ?_ | refine VV.b (b_geT (by omega) (by omega)) ?_ | refine VV.b (b_geF (by omega) (by omega)) ?_ | refine VV.b (b_gtT (by omega) (by omega)) ?_ | refine VV.b (b_gtF (by omega) (by omega)) ?_ | refine VV.b (b_leT (by omega) (by omega)) ?_ | refine VV.b (b_leF (by omega) (by omega)) ?_ | refine VV.b (b_eqT (by omega) (by omega)) ?_ | refine VV.b (b_eqF (by omega) (by omega)) ?_ | refine VV.b (b_neT (by omega) (by omega)) ?_ | refine VV.b (b_neF (by omega) (by omega)) ?_)
        · rw [if_neg c2] at q1
          repeat (first | refine VV.add rfl ?_ | refine VV.inc rfl rfl rfl ?_ | refine VV.mul rfl ?_ | refine VV.sub rfl (by omega) ?_ | refine VV.shl1 rfl (by omega) ?_ | refine VV.shl rfl ⟨by omega, by omega⟩ ?_ | refine VV.shr rfl ⟨by omega, by omega⟩ ?_ | refine VV.and rfl ?_ | refine VV.div rfl ⟨by omega, by omega, by omega⟩ ?_ | refine VV.rem rfl ⟨by omega, by omega, by omega⟩ ?_ | refine VV.s rfl ?_  | refine VV.b (b_ltT (by omega) (by omega)) ?_ | refine VV.b (b_ltF (by omega) (by omega)) ?_ | refine VV.b (b_geT (by omega) (by omega)) ?_ | refine VV.b (b_geF (by omega) (by omega)) ?_ | refine VV.b (b_gtT (by omega) (by omega)) ?_ | refine VV.b (b_gtF (by omega) (by omega)) ?_ | refine VV.b (b_leT (by omega) (by omega)) ?_ | refine VV.b (b_leF (by omega) (by omega)) ?_ | refine VV.b (b_eqT (by omega) (by omega)) ?_ | refine VV.b (b_eqF (by omega) (by omega)) ?_ | refine VV.b (b_neT (by omega) (by omega)) ?_ | refine VV.b (b_neF (by omega) (by omega)) ?_)
          exact VV.r rfl q1
  have outer : ∀ m i, i + m = n → p + i * n < 2147483648 → ∀ x5 x6, Q (some (.int (jdg n h p (B 4) (B (47 + 2 * T)) (n * n - i * n) (i * n)))) (HH S τ A B) → VV (d + 2) M_T_judgeNumbers 5 [some (.ref 1), some (.ref (46 + 2 * T)), some (.int (nI p)), some (.int (nI (i * n))), some (.int (nI i)), x5, x6] [] (HH S τ A B) Q := by
    intro m
    induction m with
    | zero =>
      intro i hi hl x5 x6 q1
      have e : i = n := by omega
      subst e
      rw [Nat.sub_self, jdg] at q1
      repeat (first | refine VV.add rfl ?_ | refine VV.inc rfl rfl rfl ?_ | refine VV.mul rfl ?_ | refine VV.sub rfl (by omega) ?_ | refine VV.shl1 rfl (by omega) ?_ | refine VV.shl rfl ⟨by omega, by omega⟩ ?_ | refine VV.shr rfl ⟨by omega, by omega⟩ ?_ | refine VV.and rfl ?_ | refine VV.div rfl ⟨by omega, by omega, by omega⟩ ?_ | refine VV.rem rfl ⟨by omega, by omega, by omega⟩ ?_ | refine VV.s rfl ?_  | refine VV.b (b_ltT (by omega) (by omega)) ?_ | refine VV.b (b_ltF (by omega) (by omega)) ?_ | refine VV.b (b_geT (by omega) (by omega)) ?_ | refine VV.b (b_geF (by omega) (by omega)) ?_ | refine VV.b (b_gtT (by omega) (by omega)) ?_ | refine VV.b (b_gtF (by omega) (by omega)) ?_ | refine VV.b (b_leT (by omega) (by omega)) ?_ | refine VV.b (b_leF (by omega) (by omega)) ?_ | refine VV.b (b_eqT (by omega) (by omega)) ?_ | refine VV.b (b_eqF (by omega) (by omega)) ?_ | refine VV.b (b_neT (by omega) (by omega)) ?_ | refine VV.b (b_neF (by omega) (by omega)) ?_)
      (refine VV.c rfl ?_; refine c_lines (g := 3) rfl hn h4 ?_)
      repeat (first | refine VV.add rfl ?_ | refine VV.inc rfl rfl rfl ?_ | refine VV.mul rfl ?_ | refine VV.sub rfl (by omega) ?_ | refine VV.shl1 rfl (by omega) ?_ | refine VV.shl rfl ⟨by omega, by omega⟩ ?_ | refine VV.shr rfl ⟨by omega, by omega⟩ ?_ | refine VV.and rfl ?_ | refine VV.div rfl ⟨by omega, by omega, by omega⟩ ?_ | refine VV.rem rfl ⟨by omega, by omega, by omega⟩ ?_ | refine VV.s rfl ?_  | refine VV.b (b_ltT (by omega) (by omega)) ?_ | refine VV.b (b_ltF (by omega) (by omega)) ?_ | refine VV.b (b_geT (by omega) (by omega)) ?_ | refine VV.b (b_geF (by omega) (by omega)) ?_ | refine VV.b (b_gtT (by omega) (by omega)) ?_ | refine VV.b (b_gtF (by omega) (by omega)) ?_ | refine VV.b (b_leT (by omega) (by omega)) ?_ | refine VV.b (b_leF (by omega) (by omega)) ?_ | refine VV.b (b_eqT (by omega) (by omega)) ?_ | refine VV.b (b_eqF (by omega) (by omega)) ?_ | refine VV.b (b_neT (by omega) (by omega)) ?_ | refine VV.b (b_neF (by omega) (by omega)) ?_)
      exact VV.r rfl q1
    | succ m ih =>
      intro i hi hl x5 x6 q1
      have := inner i (by omega) n 0 (by omega) (by omega) x6 q1 (fun x6 hl2 q2 => by
        rw [← Nat.succ_mul] at q2 hl2 ⊢
        have := ih (i + 1) (by omega) hl2 (some (.int (nI n))) x6 q2
        repeat (first | exact this | refine VV.add rfl ?_ | refine VV.inc rfl rfl rfl ?_ | refine VV.mul rfl ?_ | refine VV.sub rfl (by omega) ?_ | refine VV.shl1 rfl (by omega) ?_ | refine VV.shl rfl ⟨by omega, by omega⟩ ?_ | refine VV.shr rfl ⟨by omega, by omega⟩ ?_ | refine VV.and rfl ?_ | refine VV.div rfl ⟨by omega, by omega, by omega⟩ ?_ | refine VV.rem rfl ⟨by omega, by omega, by omega⟩ ?_ | refine VV.s rfl ?_  | refine VV.b (b_ltT (by omega) (by omega)) ?_ | refine VV.b (b_ltF (by omega) (by omega)) ?_ | refine VV.b (b_geT (by omega) (by omega)) ?_ | refine VV.b (b_geF (by omega) (by omega)) ?_ | refine VV.b (b_gtT (by omega) (by omega)) ?_ | refine VV.b (b_gtF (by omega) (by omega)) ?_ | refine VV.b (b_leT (by omega) (by omega)) ?_ | refine VV.b (b_leF (by omega) (by omega)) ?_ | refine VV.b (b_eqT (by omega) (by omega)) ?_ | refine VV.b (b_eqF (by omega) (by omega)) ?_ | refine VV.b (b_neT (by omega) (by omega)) ?_ | refine VV.b (b_neF (by omega) (by omega)) ?_))
      repeat (first | refine VV.add rfl ?_ | refine VV.inc rfl rfl rfl ?_ | refine VV.mul rfl ?_ | refine VV.sub rfl (by omega) ?_ | refine VV.shl1 rfl (by omega) ?_ | refine VV.shl rfl ⟨by omega, by omega⟩ ?_ | refine VV.shr rfl ⟨by omega, by omega⟩ ?_ | refine VV.and rfl ?_ | refine VV.div rfl ⟨by omega, by omega, by omega⟩ ?_ | refine VV.rem rfl ⟨by omega, by omega, by omega⟩ ?_ | refine VV.s rfl ?_  | refine VV.b (b_ltT (by omega) (by omega)) ?_ | refine VV.b (b_ltF (by omega) (by omega)) ?_ | refine VV.b (b_geT (by omega) (by omega)) ?_ | refine VV.b (b_geF (by omega) (by omega)) ?_ | refine VV.b (b_gtT (by omega) (by omega)) ?_ | refine VV.b (b_gtF (by omega) (by omega)) ?_ | refine VV.b (b_leT (by omega) (by omega)) ?_ | refine VV.b (b_leF (by omega) (by omega)) ?_ | refine VV.b (b_eqT (by omega) (by omega)) ?_ | refine VV.b (b_eqF (by omega) (by omega)) ?_ | refine VV.b (b_neT (by omega) (by omega)) ?_ | refine VV.b (b_neF (by omega) (by omega)) ?_)
      (refine VV.c rfl ?_; refine c_lines (g := 3) rfl hn h4 ?_)
      repeat (first | exact this | refine VV.add rfl ?_ | refine VV.inc rfl rfl rfl ?_ | refine VV.mul rfl ?_ | refine VV.sub rfl (by omega) ?_ | refine VV.shl1 rfl (by omega) ?_ | refine VV.shl rfl ⟨by omega, by omega⟩ ?_ | refine VV.shr rfl ⟨by omega, by omega⟩ ?_ | refine VV.and rfl ?_ | refine VV.div rfl ⟨by omega, by omega, by omega⟩ ?_ | refine VV.rem rfl ⟨by omega, by omega, by omega⟩ ?_ | refine VV.s rfl ?_  | refine VV.b (b_ltT (by omega) (by omega)) ?_ | refine VV.b (b_ltF (by omega) (by omega)) ?_ | refine VV.b (b_geT (by omega) (by omega)) ?_ | refine VV.b (b_geF (by omega) (by omega)) ?_ | refine VV.b (b_gtT (by omega) (by omega)) ?_ | refine VV.b (b_gtF (by omega) (by omega)) ?_ | refine VV.b (b_leT (by omega) (by omega)) ?_ | refine VV.b (b_leF (by omega) (by omega)) ?_ | refine VV.b (b_eqT (by omega) (by omega)) ?_ | refine VV.b (b_eqF (by omega) (by omega)) ?_ | refine VV.b (b_neT (by omega) (by omega)) ?_ | refine VV.b (b_neF (by omega) (by omega)) ?_)
  have := outer n 0 (by omega) (by omega) none none (by rw [Nat.zero_mul, Nat.sub_zero]; exact q)
  rw [Nat.zero_mul] at this
  repeat (first | exact this | refine VV.add rfl ?_ | refine VV.inc rfl rfl rfl ?_ | refine VV.mul rfl ?_ | refine VV.sub rfl (by omega) ?_ | refine VV.shl1 rfl (by omega) ?_ | refine VV.shl rfl ⟨by omega, by omega⟩ ?_ | refine VV.shr rfl ⟨by omega, by omega⟩ ?_ | refine VV.and rfl ?_ | refine VV.div rfl ⟨by omega, by omega, by omega⟩ ?_ | refine VV.rem rfl ⟨by omega, by omega, by omega⟩ ?_ | refine VV.s rfl ?_  | refine VV.b (b_ltT (by omega) (by omega)) ?_ | refine VV.b (b_ltF (by omega) (by omega)) ?_ | refine VV.b (b_geT (by omega) (by omega)) ?_ | refine VV.b (b_geF (by omega) (by omega)) ?_ | refine VV.b (b_gtT (by omega) (by omega)) ?_ | refine VV.b (b_gtF (by omega) (by omega)) ?_ | refine VV.b (b_leT (by omega) (by omega)) ?_ | refine VV.b (b_leF (by omega) (by omega)) ?_ | refine VV.b (b_eqT (by omega) (by omega)) ?_ | refine VV.b (b_eqF (by omega) (by omega)) ?_ | refine VV.b (b_neT (by omega) (by omega)) ?_ | refine VV.b (b_neF (by omega) (by omega)) ?_)
end JD
theorem jdg_congr {n h p : Nat} {E E' it it' : Nat → Int64} (h1 : 1 ≤ n) (hE : ∀ i j, i < n → j < n → E (4 * i + j) = E' (4 * i + j)) (hi : ∀ j, j < h → it j = it' j) : ∀ m k, k + m ≤ n * n → jdg n h p E it m k = jdg n h p E' it' m k := by
  intro m
  induction m with
  | zero => intro k _; rfl
  | succ m ih =>
    intro k hk
    rw [jdg, jdg, ih (k + 1) (by omega), hE _ _ (Nat.div_lt_of_lt_mul (show k < n * n by omega)) (Nat.mod_lt _ (by omega))]
    by_cases c : h ≤ p + k
    · rw [if_pos c, if_pos c]
    · rw [if_neg c, if_neg c, hi _ (by omega)]
section X4
variable {d : Nat} {s : St}
theorem x_judge (i : IV s) {t x : Int32} : KX (d + 3) M_T_judge [.ref 1, .int t, .int x] s (oJudge s t x) := by
  intro S τ A B Q h q
  unfold oJudge at q
  have hn : τ (100 * 3 + 2) = nI s.c.n := h.now.n
  have h4 := i.c.n4
  have h2 := i.c.n2
  refine CC.of rfl ?_
  repeat refine VV.s rfl ?_
  (refine VV.c rfl ?_; refine cx_tapeAt (fun T h6 e => ?_) (fun e => ?_))
  · subst e
    rw [ltB_nI6 h6, if_pos rfl, nI_clamp (by omega)] at q
    have hT := tabT_ok h6
    have h5 := (i.ts T h6).1
    have h60 := (i.ts T h6).2.1
    have main : (s.ts T = 0 ∨ s.ts T = 2) → VV (d + 3) M_T_judge 31 [some (.ref 1), some (.int (nI T)), some (.int x), some (.ref (46 + 2 * T))] [] (HH S τ A B) Q := by
      intro c
      rw [if_pos c] at q
      repeat refine VV.s rfl ?_
      (refine VV.c rfl ?_; refine cx_judgeNumbers h6 (h.tl T h6) h60 hn (by omega) h4 ?_)
      rw [jdg_congr (E := B 4) (E' := s.c.E) (it := B (47 + 2 * T)) (it' := s.ti T) (by omega) (fun a b ha hb => h.now.E a b ha hb) (fun j hj => h.ti T j h6 (by omega)) _ _ (by omega)]
      exact VV.r rfl (q τ A B h FX.refl)
    repeat refine VV.s rfl ?_
    (refine VV.cv rfl (rdT hT).1 ?_; refine ct_sort hT ?_)
    rw [h.ts T h6]
    refine VV.s rfl ?_
    refine VV.s rfl ?_
    refine VV.i (fun c0 => ?_) (fun c0 => ?_)
    · exact main (Or.inr ((sI_1 h5).mp c0))
    repeat refine VV.s rfl ?_
    (refine VV.cv rfl (rdT hT).1 ?_; refine ct_sort hT ?_)
    rw [h.ts T h6]
    refine VV.s rfl ?_
    refine VV.s rfl ?_
    refine VV.i (fun c1 => ?_) (fun c1 => ?_)
    · exact main (Or.inl ((sI_m1 h5).mp c1))
    rw [if_neg (fun z => z.elim (fun z => c1 ((sI_m1 h5).mpr z)) (fun z => c0 ((sI_1 h5).mpr z)))] at q
    repeat refine VV.s rfl ?_
    exact VV.r rfl (q τ A B h FX.refl)
  · rw [e] at q
    repeat refine VV.s rfl ?_
    exact VV.r rfl (q τ A B h FX.refl)
theorem x_shift (i : IV s) {t x u y m : Int32} : KX (d + 3) M_T_shift [.ref 1, .int t, .int x, .int u, .int y, .int m] s (oShift s t x u y m) := by
  intro S τ A B Q h q
  unfold oShift at q
  refine CC.of rfl ?_
  repeat refine VV.s rfl ?_
  (refine VV.c rfl ?_; refine cx_tapeAt (fun T h6 e => ?_) (fun e => ?_))
  · subst e
    repeat refine VV.s rfl ?_
    (refine VV.c rfl ?_; refine cx_tapeAt (fun U g6 e => ?_) (fun e => ?_))
    · subst e
      rw [if_pos ⟨ltB_nI6 h6, ltB_nI6 g6⟩, nI_clamp (by omega), nI_clamp (by omega)] at q
      have hT := tabT_ok h6
      have h5 := (i.ts T h6).1
      have h60 := (i.ts T h6).2.1
      have hU := tabT_ok g6
      have g5 := (i.ts U g6).1
      have g60 := (i.ts U g6).2.1
      have bad : (hpB (s.th T) x m = true ∧ hpB (s.th U) y m = true → False) → s.ts T ≠ 0 → s.ts U ≠ 0 → s.ts T = s.ts U → VV (d + 3) M_T_shift 86 [some (.ref 1), some (.int (nI T)), some (.int x), some (.int (nI U)), some (.int y), some (.int m), some (.ref (46 + 2 * T)), some (.ref (46 + 2 * U))] [] (HH S τ A B) Q := by
        intro c z1 z2 z3
        rw [if_neg (fun z => z.elim z1 z2), if_pos z3, if_neg c] at q
        repeat refine VV.s rfl ?_
        exact VV.r rfl (q τ A B h FX.refl)
      repeat refine VV.s rfl ?_
      (refine VV.cv rfl (rdT hT).1 ?_; refine ct_sort hT ?_)
      rw [h.ts T h6]
      refine VV.s rfl ?_
      refine VV.s rfl ?_
      refine VV.i (fun c0 => ?_) (fun c0 => ?_)
      · rw [if_pos (Or.inl ((sI_m1 h5).mp c0))] at q
        repeat refine VV.s rfl ?_
        exact VV.r rfl (q τ A B h FX.refl)
      repeat refine VV.s rfl ?_
      (refine VV.cv rfl (rdT hU).1 ?_; refine ct_sort hU ?_)
      rw [h.ts U g6]
      refine VV.s rfl ?_
      refine VV.s rfl ?_
      refine VV.i (fun c1 => ?_) (fun c1 => ?_)
      · rw [if_pos (Or.inr ((sI_m1 g5).mp c1))] at q
        repeat refine VV.s rfl ?_
        exact VV.r rfl (q τ A B h FX.refl)
      have z1 : s.ts T ≠ 0 := fun z => c0 ((sI_m1 h5).mpr z)
      have z2 : s.ts U ≠ 0 := fun z => c1 ((sI_m1 g5).mpr z)
      repeat refine VV.s rfl ?_
      (refine VV.cv rfl (rdT hT).1 ?_; refine ct_sort hT ?_)
      rw [h.ts T h6]
      repeat refine VV.s rfl ?_
      (refine VV.cv rfl (rdT hU).1 ?_; refine ct_sort hU ?_)
      rw [h.ts U g6]
      refine VV.s rfl ?_
      refine VV.i (fun c2 => ?_) (fun c2 => ?_)
      · have z3 := (sI_inj h5 g5).mp c2
        repeat refine VV.s rfl ?_
        (refine VV.cv rfl (rdT hT).1 ?_; refine ct_hasPlaces hT (h.tl T h6) h60 ?_)
        cases hb : hpB (s.th T) x m with
        | false =>
          have := bad (fun z => by rw [hb] at z; cases z.1) z1 z2 z3
          repeat (first | exact this | refine VV.s rfl ?_)
        | true =>
          show VV _ _ _ _ [.int (nI 1)] _ _
          refine VV.s rfl ?_
          repeat refine VV.s rfl ?_
          (refine VV.cv rfl (rdT hU).1 ?_; refine ct_hasPlaces hU (h.tl U g6) g60 ?_)
          cases hc : hpB (s.th U) y m with
          | false =>
            have := bad (fun z => by rw [hc] at z; cases z.2) z1 z2 z3
            repeat (first | exact this | refine VV.s rfl ?_)
          | true =>
            rw [if_neg (fun z => z.elim z1 z2), if_pos z3, if_pos ⟨hb, hc⟩] at q
            obtain ⟨k, l, rfl, rfl, e1⟩ := hpB_spec hb
            obtain ⟨k2, l2, rfl, e3, e2⟩ := hpB_spec hc
            have e4 : l = l2 := (nI_eq (by omega) (by omega)).mp e3
            subst e4
            rw [nI_clamp (by omega), nI_clamp (by omega), nI_clamp (by omega)] at q
            show VV _ _ _ _ [.int (nI 1)] _ _
            repeat refine VV.s rfl ?_
            (refine VV.cv rfl (rdT hT).1 ?_; refine ct_copyItems hT hU (h.tl T h6) h60 (h.tl U g6) g60 e1 e2 ?_)
            rw [show 46 + 2 * T + 1 = 47 + 2 * T by omega, show 46 + 2 * U + 1 = 47 + 2 * U by omega]
            repeat refine VV.s rfl ?_
            refine VV.r rfl (q _ _ _ (h.tput g6 (fun j hj => ?_)) (FX.ub (by omega) FX.refl))
            rw [cpf_at, cpf_at]
            by_cases c : k2 ≤ j ∧ j < k2 + l
            · rw [if_pos c, if_pos c]; exact h.ti T _ h6 (by omega)
            · rw [if_neg c, if_neg c]; exact h.ti U j g6 hj
      · rw [if_neg (fun z => z.elim z1 z2), if_neg (fun z => c2 ((sI_inj h5 g5).mpr z))] at q
        repeat refine VV.s rfl ?_
        exact VV.r rfl (q τ A B h FX.refl)
    · rw [if_neg (fun z => by rw [e] at z; cases z.2)] at q
      repeat refine VV.s rfl ?_
      exact VV.r rfl (q τ A B h FX.refl)
  · rw [if_neg (fun z => by rw [e] at z; cases z.1)] at q
    repeat refine VV.s rfl ?_
    (refine VV.c rfl ?_; refine cx_tapeAt (fun U g6 e => ?_) (fun e => ?_))
    · repeat refine VV.s rfl ?_
      exact VV.r rfl (q τ A B h FX.refl)
    · repeat refine VV.s rfl ?_
      exact VV.r rfl (q τ A B h FX.refl)
end X4
