/-! a Grid's determinant, by the last row -/
def lpN {σ : Type} (F : Nat → σ → σ) : Nat → Nat → σ → σ
  | 0, _, s => s
  | m + 1, k, s => lpN F m (k + 1) (F k s)
theorem VV.loop {σ : Type} (F : Nat → σ → σ) (V : Nat → σ → Prop) (e : Nat) (step : ∀ k s, k < e → V (k + 1) (F k s) → V k s) : ∀ m k s, k + m = e → V e (lpN F m k s) → V k s
  | 0, k, s, hk, h => by have : k = e := by omega
                         subst this; exact h
  | m + 1, k, s, hk, h => step k s (by omega) (VV.loop F V e step m (k + 1) (F k s) (by omega) h)
theorem VV.loopF {σ : Type} (F : Nat → σ → σ) (V : Nat → σ → Prop) (b e : Nat) (step : ∀ k s, b ≤ k → k < e → V (k + 1) (F k s) → V k s) : ∀ m k s, b ≤ k → k + m = e → V e (lpN F m k s) → V k s
  | 0, k, s, _, hk, h => by have : k = e := by omega
                            subst this; exact h
  | m + 1, k, s, hb, hk, h => step k s hb (by omega) (VV.loopF F V b e step m (k + 1) (F k s) (by omega) (by omega) h)
theorem t_bit2 : (List.range 16).all (fun x => (List.range 4).all (fun j => decide (x &&& 2 ^ j = x / 2 ^ j % 2 * 2 ^ j) && decide (x ^^^ 2 ^ j < 16))) = true := by decide +kernel
theorem bit_and {x j : Nat} (hx : x < 16) (hj : j < 4) : x &&& 2 ^ j = x / 2 ^ j % 2 * 2 ^ j ∧ x ^^^ 2 ^ j < 16 := by
  have := List.all_eq_true.mp (List.all_eq_true.mp t_bit2 x (List.mem_range.mpr hx)) j (List.mem_range.mpr hj)
  simp only [Bool.and_eq_true, decide_eq_true_eq] at this
  exact this
theorem fin_sub : (List.range 16).all (fun x => (List.range 16).all (fun c => decide (nI x &&& (nI c ^^^ -(nI 1)) = nI (x &&& (15 ^^^ c))))) = true := by decide +kernel
theorem t_sub {x c : Nat} (hx : x < 16) (hc : c < 16) : nI x &&& (nI c ^^^ -(nI 1)) = nI (x &&& (15 ^^^ c)) := of_decide_eq_true (List.all_eq_true.mp (List.all_eq_true.mp fin_sub x (List.mem_range.mpr hx)) c (List.mem_range.mpr hc))
theorem pw4 {j : Nat} (hj : j < 4) : 0 < 2 ^ j ∧ 2 ^ j ≤ 8 := by
  rcases (show j = 0 ∨ j = 1 ∨ j = 2 ∨ j = 3 by omega) with rfl | rfl | rfl | rfl <;> decide
def lnf (R rk : Nat) : Nat → Nat → Nat → Nat
  | 0, _, _ => 99
  | m + 1, l, ps => if R / 2 ^ l % 2 = 1 then (if ps + 1 = rk then l else lnf R rk m (l + 1) (ps + 1)) else lnf R rk m (l + 1) ps
def expF (E : Nat → Int64) (f : Nat → Int64) (row t : Nat) : Nat → Int64 → Int64 := fun c s => if t / 2 ^ c % 2 = 1 then s + (if pop4 (t / 2 ^ (c + 1)) % 2 = 0 then E (4 * row + c) * f (t ^^^ 2 ^ c) else -(E (4 * row + c) * f (t ^^^ 2 ^ c))) else s
def detF (E : Nat → Int64) (n R C : Nat) : Nat → (Nat → Int64) → (Nat → Int64) := fun t f => if t &&& (15 ^^^ C) = 0 then up f t (lpN (expF E f (lnf R (pop4 t) n 0 0) t) n 0 0) else f
section GL3
variable {S : Cl} {τ : Nat → Int32} {A : Nat → Nat → Int32} {B : Nat → Nat → Int64}
variable {d g n : Nat} {Q : Option Value → Hp → Prop}
theorem c_lineOf (hg : (lkp tabG g).isSome = true) (hn : τ (100 * g + 2) = nI n) (h4 : n ≤ 4) {R rk : Nat} (hR : R < 16) (hrk : rk < 100) (hf : lnf R rk n 0 0 ≠ 99) (q : Q (some (.int (nI (lnf R rk n 0 0)))) (HH S τ A B)) : CC d M_Grid_lineOf [.ref g, .int (nI R), .int (nI rk)] (HH S τ A B) Q := by
  refine CC.of rfl ?_
  have key : ∀ m l ps, l + m = n → ps ≤ l → lnf R rk m l ps ≠ 99 → Q (some (.int (nI (lnf R rk m l ps)))) (HH S τ A B) → VV d M_Grid_lineOf 5 [some (.ref g), some (.int (nI R)), some (.int (nI rk)), some (.int (nI ps)), some (.int (nI l))] [] (HH S τ A B) Q := by
    intro m
    induction m with
    | zero => intro l ps _ _ h; exact absurd rfl h
    | succ m ih =>
      intro l ps hl hp hf q
      obtain ⟨b1, -⟩ := bit_and hR (show l < 4 by omega)
      obtain ⟨p1, p2⟩ := pw4 (show l < 4 by omega)
      rw [lnf] at hf q
      by_cases hb : R / 2 ^ l % 2 = 1
      · rw [if_pos hb] at hf q
        rw [hb, Nat.one_mul] at b1
        by_cases hk : ps + 1 = rk
        · rw [if_pos hk] at q
          repeat (first | refine VV.add rfl ?_ | refine VV.inc rfl rfl rfl ?_ | refine VV.mul rfl ?_ | refine VV.sub rfl (by omega) ?_ | refine VV.shl1 rfl (by omega) ?_ | refine VV.shl rfl ⟨by omega, by omega⟩ ?_ | refine VV.shr rfl ⟨by omega, by omega⟩ ?_ | refine VV.and rfl ?_ | refine VV.s rfl ?_ | refine VV.gn rfl (rdG hg).1 rfl hn ?_ | refine VV.g rfl (rdG hg).1 rfl ?_ | refine VV.b (b_ltT (by omega) (by omega)) ?_ | refine VV.b (b_ltF (by omega) (by omega)) ?_ | refine VV.b (b_geT (by omega) (by omega)) ?_ | refine VV.b (b_geF (by omega) (by omega)) ?_ | refine VV.b (b_gtT (by omega) (by omega)) ?_ | refine VV.b (b_gtF (by omega) (by omega)) ?_ | refine VV.b (b_leT (by omega) (by omega)) ?_ | refine VV.b (b_leF (by omega) (by omega)) ?_ | refine VV.b (b_eqT (by omega) (by omega)) ?_ | refine VV.b (b_eqF (by omega) (by omega)) ?_ | refine VV.b (b_neT (by omega) (by omega)) ?_ | refine VV.b (b_neF (by omega) (by omega)) ?_)
          exact VV.r rfl q
        · rw [if_neg hk] at hf q
          have := ih (l + 1) (ps + 1) (by omega) (by omega) hf q
          repeat (first | exact this | refine VV.add rfl ?_ | refine VV.inc rfl rfl rfl ?_ | refine VV.mul rfl ?_ | refine VV.sub rfl (by omega) ?_ | refine VV.shl1 rfl (by omega) ?_ | refine VV.shl rfl ⟨by omega, by omega⟩ ?_ | refine VV.shr rfl ⟨by omega, by omega⟩ ?_ | refine VV.and rfl ?_ | refine VV.s rfl ?_ | refine VV.gn rfl (rdG hg).1 rfl hn ?_ | refine VV.g rfl (rdG hg).1 rfl ?_ | refine VV.b (b_ltT (by omega) (by omega)) ?_ | refine VV.b (b_ltF (by omega) (by omega)) ?_ | refine VV.b (b_geT (by omega) (by omega)) ?_ | refine VV.b (b_geF (by omega) (by omega)) ?_ | refine VV.b (b_gtT (by omega) (by omega)) ?_ | refine VV.b (b_gtF (by omega) (by omega)) ?_ | refine VV.b (b_leT (by omega) (by omega)) ?_ | refine VV.b (b_leF (by omega) (by omega)) ?_ | refine VV.b (b_eqT (by omega) (by omega)) ?_ | refine VV.b (b_eqF (by omega) (by omega)) ?_ | refine VV.b (b_neT (by omega) (by omega)) ?_ | refine VV.b (b_neF (by omega) (by omega)) ?_)
      · rw [if_neg hb] at hf q
        have hb0 : R / 2 ^ l % 2 = 0 := by omega
        rw [hb0, Nat.zero_mul] at b1
        have := ih (l + 1) ps (by omega) (by omega) hf q
        repeat (first | exact this | refine VV.add rfl ?_ | refine VV.inc rfl rfl rfl ?_ | refine VV.mul rfl ?_ | refine VV.sub rfl (by omega) ?_ | refine VV.shl1 rfl (by omega) ?_ | refine VV.shl rfl ⟨by omega, by omega⟩ ?_ | refine VV.shr rfl ⟨by omega, by omega⟩ ?_ | refine VV.and rfl ?_ | refine VV.s rfl ?_ | refine VV.gn rfl (rdG hg).1 rfl hn ?_ | refine VV.g rfl (rdG hg).1 rfl ?_ | refine VV.b (b_ltT (by omega) (by omega)) ?_ | refine VV.b (b_ltF (by omega) (by omega)) ?_ | refine VV.b (b_geT (by omega) (by omega)) ?_ | refine VV.b (b_geF (by omega) (by omega)) ?_ | refine VV.b (b_gtT (by omega) (by omega)) ?_ | refine VV.b (b_gtF (by omega) (by omega)) ?_ | refine VV.b (b_leT (by omega) (by omega)) ?_ | refine VV.b (b_leF (by omega) (by omega)) ?_ | refine VV.b (b_eqT (by omega) (by omega)) ?_ | refine VV.b (b_eqF (by omega) (by omega)) ?_ | refine VV.b (b_neT (by omega) (by omega)) ?_ | refine VV.b (b_neF (by omega) (by omega)) ?_)
  have := key n 0 0 (by omega) (by omega) hf q
  repeat (first | exact this | refine VV.add rfl ?_ | refine VV.inc rfl rfl rfl ?_ | refine VV.mul rfl ?_ | refine VV.sub rfl (by omega) ?_ | refine VV.shl1 rfl (by omega) ?_ | refine VV.shl rfl ⟨by omega, by omega⟩ ?_ | refine VV.shr rfl ⟨by omega, by omega⟩ ?_ | refine VV.and rfl ?_ | refine VV.s rfl ?_ | refine VV.gn rfl (rdG hg).1 rfl hn ?_ | refine VV.g rfl (rdG hg).1 rfl ?_ | refine VV.b (b_ltT (by omega) (by omega)) ?_ | refine VV.b (b_ltF (by omega) (by omega)) ?_ | refine VV.b (b_geT (by omega) (by omega)) ?_ | refine VV.b (b_geF (by omega) (by omega)) ?_ | refine VV.b (b_gtT (by omega) (by omega)) ?_ | refine VV.b (b_gtF (by omega) (by omega)) ?_ | refine VV.b (b_leT (by omega) (by omega)) ?_ | refine VV.b (b_leF (by omega) (by omega)) ?_ | refine VV.b (b_eqT (by omega) (by omega)) ?_ | refine VV.b (b_eqF (by omega) (by omega)) ?_ | refine VV.b (b_neT (by omega) (by omega)) ?_ | refine VV.b (b_neF (by omega) (by omega)) ?_)
theorem c_expand (hg : (lkp tabG g).isSome = true) (hn : τ (100 * g + 2) = nI n) (h4 : n ≤ 4) {row t : Nat} (hrow : row < n) (ht : t < 16) (q : Q (some (.long (lpN (expF (B (g + 1)) (B (g + 2)) row t) n 0 0))) (HH S τ A B)) : CC (d + 1) M_Grid_expandLastRow [.ref g, .int (nI row), .int (nI t)] (HH S τ A B) Q := by
  refine CC.of rfl ?_
  have e0 : VV (d + 1) M_Grid_expandLastRow 5 [some (.ref g), some (.int (nI row)), some (.int (nI t)), some (.long 0), none, some (.int (nI 0)), none, none, none, none] [] (HH S τ A B) Q := by
    have V := VV.loop (expF (B (g + 1)) (B (g + 2)) row t) (fun k s => ∀ (x6 x7 x9 : Option Value), VV (d + 1) M_Grid_expandLastRow 5 [some (.ref g), some (.int (nI row)), some (.int (nI t)), some (.long s), none, some (.int (nI k)), x6, x7, none, x9] [] (HH S τ A B) Q) n ?_ n 0 0 (by omega) ?_
    · exact V none none none
    · intro k s hk hnext x6 x7 x9
      obtain ⟨b1, b4⟩ := bit_and ht (show k < 4 by omega)
      obtain ⟨p1, p2⟩ := pw4 (show k < 4 by omega)
      have hq1 : t / 2 ^ (k + 1) < 16 := Nat.lt_of_le_of_lt (Nat.div_le_self _ _) ht
      have hp4 : pop4 (t / 2 ^ (k + 1)) < 5 := by unfold pop4; omega
      unfold expF at hnext
      by_cases hb : t / 2 ^ k % 2 = 1
      · rw [if_pos hb] at hnext
        rw [hb, Nat.one_mul] at b1
        repeat (first | refine VV.add rfl ?_ | refine VV.inc rfl rfl rfl ?_ | refine VV.mul rfl ?_ | refine VV.sub rfl (by omega) ?_ | refine VV.shl1 rfl (by omega) ?_ | refine VV.shl rfl ⟨by omega, by omega⟩ ?_ | refine VV.shr rfl ⟨by omega, by omega⟩ ?_ | refine VV.and rfl ?_ | refine VV.s rfl ?_ | refine VV.gn rfl (rdG hg).1 rfl hn ?_ | refine VV.g rfl (rdG hg).1 rfl ?_ | refine VV.b (b_ltT (by omega) (by omega)) ?_ | refine VV.b (b_ltF (by omega) (by omega)) ?_ | refine VV.b (b_geT (by omega) (by omega)) ?_ | refine VV.b (b_geF (by omega) (by omega)) ?_ | refine VV.b (b_gtT (by omega) (by omega)) ?_ | refine VV.b (b_gtF (by omega) (by omega)) ?_ | refine VV.b (b_leT (by omega) (by omega)) ?_ | refine VV.b (b_leF (by omega) (by omega)) ?_ | refine VV.b (b_eqT (by omega) (by omega)) ?_ | refine VV.b (b_eqF (by omega) (by omega)) ?_ | refine VV.b (b_neT (by omega) (by omega)) ?_ | refine VV.b (b_neF (by omega) (by omega)) ?_)
        refine VV.cv rfl (rdG hg).1 ?_
        refine c_at hg hn h4 hrow hk ?_
        refine VV.s rfl ?_
        refine VV.s rfl ?_
        refine VV.s rfl ?_
        refine VV.xor rfl ?_
        refine VV.cv rfl (rdG hg).1 ?_
        refine c_partOf hg hn h4 b4 ?_
        repeat (first | refine VV.add rfl ?_ | refine VV.inc rfl rfl rfl ?_ | refine VV.mul rfl ?_ | refine VV.sub rfl (by omega) ?_ | refine VV.shl1 rfl (by omega) ?_ | refine VV.shl rfl ⟨by omega, by omega⟩ ?_ | refine VV.shr rfl ⟨by omega, by omega⟩ ?_ | refine VV.and rfl ?_ | refine VV.s rfl ?_ | refine VV.gn rfl (rdG hg).1 rfl hn ?_ | refine VV.g rfl (rdG hg).1 rfl ?_ | refine VV.b (b_ltT (by omega) (by omega)) ?_ | refine VV.b (b_ltF (by omega) (by omega)) ?_ | refine VV.b (b_geT (by omega) (by omega)) ?_ | refine VV.b (b_geF (by omega) (by omega)) ?_ | refine VV.b (b_gtT (by omega) (by omega)) ?_ | refine VV.b (b_gtF (by omega) (by omega)) ?_ | refine VV.b (b_leT (by omega) (by omega)) ?_ | refine VV.b (b_leF (by omega) (by omega)) ?_ | refine VV.b (b_eqT (by omega) (by omega)) ?_ | refine VV.b (b_eqF (by omega) (by omega)) ?_ | refine VV.b (b_neT (by omega) (by omega)) ?_ | refine VV.b (b_neF (by omega) (by omega)) ?_)
        refine VV.c rfl ?_
        refine c_bitCount hq1 ?_
        refine VV.s rfl ?_
        refine VV.rem rfl ⟨by omega, by omega, by omega⟩ ?_
        by_cases he : pop4 (t / 2 ^ (k + 1)) % 2 = 0
        · rw [if_pos he] at hnext
          have := hnext (some (.int (nI (2 ^ k)))) (some (.long (B (g + 1) (4 * row + k) * B (g + 2) (t ^^^ 2 ^ k)))) (some (.int (nI 1)))
          repeat (first | exact this | refine VV.add rfl ?_ | refine VV.inc rfl rfl rfl ?_ | refine VV.mul rfl ?_ | refine VV.sub rfl (by omega) ?_ | refine VV.shl1 rfl (by omega) ?_ | refine VV.shl rfl ⟨by omega, by omega⟩ ?_ | refine VV.shr rfl ⟨by omega, by omega⟩ ?_ | refine VV.and rfl ?_ | refine VV.s rfl ?_ | refine VV.gn rfl (rdG hg).1 rfl hn ?_ | refine VV.g rfl (rdG hg).1 rfl ?_ | refine VV.b (b_ltT (by omega) (by omega)) ?_ | refine VV.b (b_ltF (by omega) (by omega)) ?_ | refine VV.b (b_geT (by omega) (by omega)) ?_ | refine VV.b (b_geF (by omega) (by omega)) ?_ | refine VV.b (b_gtT (by omega) (by omega)) ?_ | refine VV.b (b_gtF (by omega) (by omega)) ?_ | refine VV.b (b_leT (by omega) (by omega)) ?_ | refine VV.b (b_leF (by omega) (by omega)) ?_ | refine VV.b (b_eqT (by omega) (by omega)) ?_ | refine VV.b (b_eqF (by omega) (by omega)) ?_ | refine VV.b (b_neT (by omega) (by omega)) ?_ | refine VV.b (b_neF (by omega) (by omega)) ?_)
        · rw [if_neg he] at hnext
          have := hnext (some (.int (nI (2 ^ k)))) (some (.long (B (g + 1) (4 * row + k) * B (g + 2) (t ^^^ 2 ^ k)))) (some (.int (nI 0)))
          repeat (first | exact this | refine VV.add rfl ?_ | refine VV.inc rfl rfl rfl ?_ | refine VV.mul rfl ?_ | refine VV.sub rfl (by omega) ?_ | refine VV.shl1 rfl (by omega) ?_ | refine VV.shl rfl ⟨by omega, by omega⟩ ?_ | refine VV.shr rfl ⟨by omega, by omega⟩ ?_ | refine VV.and rfl ?_ | refine VV.s rfl ?_ | refine VV.gn rfl (rdG hg).1 rfl hn ?_ | refine VV.g rfl (rdG hg).1 rfl ?_ | refine VV.b (b_ltT (by omega) (by omega)) ?_ | refine VV.b (b_ltF (by omega) (by omega)) ?_ | refine VV.b (b_geT (by omega) (by omega)) ?_ | refine VV.b (b_geF (by omega) (by omega)) ?_ | refine VV.b (b_gtT (by omega) (by omega)) ?_ | refine VV.b (b_gtF (by omega) (by omega)) ?_ | refine VV.b (b_leT (by omega) (by omega)) ?_ | refine VV.b (b_leF (by omega) (by omega)) ?_ | refine VV.b (b_eqT (by omega) (by omega)) ?_ | refine VV.b (b_eqF (by omega) (by omega)) ?_ | refine VV.b (b_neT (by omega) (by omega)) ?_ | refine VV.b (b_neF (by omega) (by omega)) ?_)
      · rw [if_neg hb] at hnext
        have hb0 : t / 2 ^ k % 2 = 0 := by omega
        rw [hb0, Nat.zero_mul] at b1
        have := hnext (some (.int (nI (2 ^ k)))) x7 x9
        repeat (first | exact this | refine VV.add rfl ?_ | refine VV.inc rfl rfl rfl ?_ | refine VV.mul rfl ?_ | refine VV.sub rfl (by omega) ?_ | refine VV.shl1 rfl (by omega) ?_ | refine VV.shl rfl ⟨by omega, by omega⟩ ?_ | refine VV.shr rfl ⟨by omega, by omega⟩ ?_ | refine VV.and rfl ?_ | refine VV.s rfl ?_ | refine VV.gn rfl (rdG hg).1 rfl hn ?_ | refine VV.g rfl (rdG hg).1 rfl ?_ | refine VV.b (b_ltT (by omega) (by omega)) ?_ | refine VV.b (b_ltF (by omega) (by omega)) ?_ | refine VV.b (b_geT (by omega) (by omega)) ?_ | refine VV.b (b_geF (by omega) (by omega)) ?_ | refine VV.b (b_gtT (by omega) (by omega)) ?_ | refine VV.b (b_gtF (by omega) (by omega)) ?_ | refine VV.b (b_leT (by omega) (by omega)) ?_ | refine VV.b (b_leF (by omega) (by omega)) ?_ | refine VV.b (b_eqT (by omega) (by omega)) ?_ | refine VV.b (b_eqF (by omega) (by omega)) ?_ | refine VV.b (b_neT (by omega) (by omega)) ?_ | refine VV.b (b_neF (by omega) (by omega)) ?_)
    · intro x6 x7 x9
      repeat (first | refine VV.add rfl ?_ | refine VV.inc rfl rfl rfl ?_ | refine VV.mul rfl ?_ | refine VV.sub rfl (by omega) ?_ | refine VV.shl1 rfl (by omega) ?_ | refine VV.shl rfl ⟨by omega, by omega⟩ ?_ | refine VV.shr rfl ⟨by omega, by omega⟩ ?_ | refine VV.and rfl ?_ | refine VV.s rfl ?_ | refine VV.gn rfl (rdG hg).1 rfl hn ?_ | refine VV.g rfl (rdG hg).1 rfl ?_ | refine VV.b (b_ltT (by omega) (by omega)) ?_ | refine VV.b (b_ltF (by omega) (by omega)) ?_ | refine VV.b (b_geT (by omega) (by omega)) ?_ | refine VV.b (b_geF (by omega) (by omega)) ?_ | refine VV.b (b_gtT (by omega) (by omega)) ?_ | refine VV.b (b_gtF (by omega) (by omega)) ?_ | refine VV.b (b_leT (by omega) (by omega)) ?_ | refine VV.b (b_leF (by omega) (by omega)) ?_ | refine VV.b (b_eqT (by omega) (by omega)) ?_ | refine VV.b (b_eqF (by omega) (by omega)) ?_ | refine VV.b (b_neT (by omega) (by omega)) ?_ | refine VV.b (b_neF (by omega) (by omega)) ?_)
      exact VV.r rfl q
  repeat (first | exact e0 | refine VV.add rfl ?_ | refine VV.inc rfl rfl rfl ?_ | refine VV.mul rfl ?_ | refine VV.sub rfl (by omega) ?_ | refine VV.shl1 rfl (by omega) ?_ | refine VV.shl rfl ⟨by omega, by omega⟩ ?_ | refine VV.shr rfl ⟨by omega, by omega⟩ ?_ | refine VV.and rfl ?_ | refine VV.s rfl ?_ | refine VV.gn rfl (rdG hg).1 rfl hn ?_ | refine VV.g rfl (rdG hg).1 rfl ?_ | refine VV.b (b_ltT (by omega) (by omega)) ?_ | refine VV.b (b_ltF (by omega) (by omega)) ?_ | refine VV.b (b_geT (by omega) (by omega)) ?_ | refine VV.b (b_geF (by omega) (by omega)) ?_ | refine VV.b (b_gtT (by omega) (by omega)) ?_ | refine VV.b (b_gtF (by omega) (by omega)) ?_ | refine VV.b (b_leT (by omega) (by omega)) ?_ | refine VV.b (b_leF (by omega) (by omega)) ?_ | refine VV.b (b_eqT (by omega) (by omega)) ?_ | refine VV.b (b_eqF (by omega) (by omega)) ?_ | refine VV.b (b_neT (by omega) (by omega)) ?_ | refine VV.b (b_neF (by omega) (by omega)) ?_)
theorem fin_lnf : (List.range 5).all (fun n => (List.range 16).all (fun R => (List.range 5).all (fun k => decide (R < 2 ^ n → 1 ≤ k → k ≤ pop4 R → lnf R k n 0 0 < n ∧ lnf R k n 0 0 = lnf R k 4 0 0)))) = true := by decide +kernel
theorem t_lnf {n R k : Nat} (hn : n ≤ 4) (hR : R < 2 ^ n) (h1 : 1 ≤ k) (h2 : k ≤ pop4 R) : lnf R k n 0 0 < n ∧ lnf R k n 0 0 = lnf R k 4 0 0 := by
  have hp : 2 ^ n ≤ 2 ^ 4 := Nat.pow_le_pow_right (by omega) hn
  have hq : pop4 R ≤ 4 := by unfold pop4; omega
  exact of_decide_eq_true (List.all_eq_true.mp (List.all_eq_true.mp (List.all_eq_true.mp fin_lnf n (List.mem_range.mpr (by omega))) R (List.mem_range.mpr (by omega))) k (List.mem_range.mpr (by omega))) hR h1 h2
theorem fin_pop : (List.range 16).all (fun t => (List.range 16).all (fun C => decide (t &&& (15 ^^^ C) = 0 → pop4 t ≤ pop4 C ∧ (0 < t → 1 ≤ pop4 t)) && decide (t &&& (15 ^^^ C) < 16))) = true := by decide +kernel
theorem t_pop {t C : Nat} (ht : t < 16) (hC : C < 16) : (t &&& (15 ^^^ C) = 0 → pop4 t ≤ pop4 C ∧ (0 < t → 1 ≤ pop4 t)) ∧ t &&& (15 ^^^ C) < 16 := by
  have := List.all_eq_true.mp (List.all_eq_true.mp fin_pop t (List.mem_range.mpr ht)) C (List.mem_range.mpr hC)
  simp only [Bool.and_eq_true, decide_eq_true_eq] at this
  exact this
theorem c_detG (hg : (lkp tabG g).isSome = true) (hn : τ (100 * g + 2) = nI n) (h4 : n ≤ 4) {R C : Nat} (hR : R < 2 ^ n) (hC : C < 2 ^ n) (hRC : pop4 R = pop4 C) (q : ∀ f, f = lpN (detF (B (g + 1)) n R C) 15 1 (up (B (g + 2)) 0 1) → Q (some (.long (f C))) (HH S τ A (up B (g + 2) f))) : CC (d + 2) M_Grid_determinant [.ref g, .int (nI R), .int (nI C)] (HH S τ A B) Q := by
  have hp : 2 ^ n ≤ 2 ^ 4 := Nat.pow_le_pow_right (by omega) h4
  have hR4 : R < 16 := by omega
  have hC4 : C < 16 := by omega
  have hE : ∀ f : Nat → Int64, up B (g + 2) f (g + 1) = B (g + 1) := fun f => up_n (by omega)
  refine CC.of rfl ?_
  have e0 : VV (d + 2) M_Grid_determinant 9 [some (.ref g), some (.int (nI R)), some (.int (nI C)), some (.int (nI 1))] [] (HH S τ A (up B (g + 2) (up (B (g + 2)) 0 1))) Q := by
    refine VV.loopF (detF (B (g + 1)) n R C) (fun k f => VV (d + 2) M_Grid_determinant 9 [some (.ref g), some (.int (nI R)), some (.int (nI C)), some (.int (nI k))] [] (HH S τ A (up B (g + 2) f)) Q) 1 16 ?_ 15 1 _ (by omega) (by omega) ?_
    · intro k f hk1 hk hnext
      obtain ⟨t1, t2⟩ := t_pop hk hC4
      have hp4 : pop4 k < 5 := by unfold pop4; omega
      repeat (first | refine VV.add rfl ?_ | refine VV.inc rfl rfl rfl ?_ | refine VV.mul rfl ?_ | refine VV.sub rfl (by omega) ?_ | refine VV.shl1 rfl (by omega) ?_ | refine VV.shl rfl ⟨by omega, by omega⟩ ?_ | refine VV.shr rfl ⟨by omega, by omega⟩ ?_ | refine VV.and rfl ?_ | refine VV.s rfl ?_ | refine VV.gn rfl (rdG hg).1 rfl hn ?_ | refine VV.g rfl (rdG hg).1 rfl ?_ | refine VV.b (b_ltT (by omega) (by omega)) ?_ | refine VV.b (b_ltF (by omega) (by omega)) ?_ | refine VV.b (b_geT (by omega) (by omega)) ?_ | refine VV.b (b_geF (by omega) (by omega)) ?_ | refine VV.b (b_gtT (by omega) (by omega)) ?_ | refine VV.b (b_gtF (by omega) (by omega)) ?_ | refine VV.b (b_leT (by omega) (by omega)) ?_ | refine VV.b (b_leF (by omega) (by omega)) ?_ | refine VV.b (b_eqT (by omega) (by omega)) ?_ | refine VV.b (b_eqF (by omega) (by omega)) ?_ | refine VV.b (b_neT (by omega) (by omega)) ?_ | refine VV.b (b_neF (by omega) (by omega)) ?_)
      refine VV.jl rfl (rdG (S := S) (τ := τ) (A := A) (B := up B (g + 2) f) hg).2.2.2.1 ?_
      rw [(rdG (S := S) (τ := τ) (A := A) (B := up B (g + 2) f) hg).2.2.2.2.1]
      repeat (first | refine VV.add rfl ?_ | refine VV.inc rfl rfl rfl ?_ | refine VV.mul rfl ?_ | refine VV.sub rfl (by omega) ?_ | refine VV.shl1 rfl (by omega) ?_ | refine VV.shl rfl ⟨by omega, by omega⟩ ?_ | refine VV.shr rfl ⟨by omega, by omega⟩ ?_ | refine VV.and rfl ?_ | refine VV.s rfl ?_ | refine VV.gn rfl (rdG hg).1 rfl hn ?_ | refine VV.g rfl (rdG hg).1 rfl ?_ | refine VV.b (b_ltT (by omega) (by omega)) ?_ | refine VV.b (b_ltF (by omega) (by omega)) ?_ | refine VV.b (b_geT (by omega) (by omega)) ?_ | refine VV.b (b_geF (by omega) (by omega)) ?_ | refine VV.b (b_gtT (by omega) (by omega)) ?_ | refine VV.b (b_gtF (by omega) (by omega)) ?_ | refine VV.b (b_leT (by omega) (by omega)) ?_ | refine VV.b (b_leF (by omega) (by omega)) ?_ | refine VV.b (b_eqT (by omega) (by omega)) ?_ | refine VV.b (b_eqF (by omega) (by omega)) ?_ | refine VV.b (b_neT (by omega) (by omega)) ?_ | refine VV.b (b_neF (by omega) (by omega)) ?_)
      unfold detF at hnext
      have ts := t_sub hk hC4
      show VV _ _ (b_icmp .ne _ _ (nI k &&& (nI C ^^^ -(nI 1))) (nI 0)) _ _ _ _
      rw [ts]
      by_cases hs : k &&& (15 ^^^ C) = 0
      · rw [if_pos hs] at hnext
        obtain ⟨t3, t4⟩ := t1 hs
        repeat (first | refine VV.add rfl ?_ | refine VV.inc rfl rfl rfl ?_ | refine VV.mul rfl ?_ | refine VV.sub rfl (by omega) ?_ | refine VV.shl1 rfl (by omega) ?_ | refine VV.shl rfl ⟨by omega, by omega⟩ ?_ | refine VV.shr rfl ⟨by omega, by omega⟩ ?_ | refine VV.and rfl ?_ | refine VV.s rfl ?_ | refine VV.gn rfl (rdG hg).1 rfl hn ?_ | refine VV.g rfl (rdG hg).1 rfl ?_ | refine VV.b (b_ltT (by omega) (by omega)) ?_ | refine VV.b (b_ltF (by omega) (by omega)) ?_ | refine VV.b (b_geT (by omega) (by omega)) ?_ | refine VV.b (b_geF (by omega) (by omega)) ?_ | refine VV.b (b_gtT (by omega) (by omega)) ?_ | refine VV.b (b_gtF (by omega) (by omega)) ?_ | refine VV.b (b_leT (by omega) (by omega)) ?_ | refine VV.b (b_leF (by omega) (by omega)) ?_ | refine VV.b (b_eqT (by omega) (by omega)) ?_ | refine VV.b (b_eqF (by omega) (by omega)) ?_ | refine VV.b (b_neT (by omega) (by omega)) ?_ | refine VV.b (b_neF (by omega) (by omega)) ?_)
        refine VV.c rfl ?_
        refine c_bitCount hk ?_
        obtain ⟨l1, l2⟩ := t_lnf h4 hR (t4 hk1) (show pop4 k ≤ pop4 R by omega)
        refine VV.cv rfl (rdG hg).1 ?_
        refine c_lineOf hg hn h4 hR4 (by omega) (by omega) ?_
        refine VV.s rfl ?_
        refine VV.cv rfl (rdG hg).1 ?_
        refine c_expand hg hn h4 l1 hk ?_
        rw [hE, up_s]
        refine VV.js rfl (rdG (S := S) (τ := τ) (A := A) (B := up B (g + 2) f) hg).2.2.2.1 rfl (by rw [(rdG (S := S) (τ := τ) (A := A) (B := up B (g + 2) f) hg).2.2.2.2.1]; omega) ?_
        rw [up_up, up_s]
        repeat (first | exact hnext | refine VV.add rfl ?_ | refine VV.inc rfl rfl rfl ?_ | refine VV.mul rfl ?_ | refine VV.sub rfl (by omega) ?_ | refine VV.shl1 rfl (by omega) ?_ | refine VV.shl rfl ⟨by omega, by omega⟩ ?_ | refine VV.shr rfl ⟨by omega, by omega⟩ ?_ | refine VV.and rfl ?_ | refine VV.s rfl ?_ | refine VV.gn rfl (rdG hg).1 rfl hn ?_ | refine VV.g rfl (rdG hg).1 rfl ?_ | refine VV.b (b_ltT (by omega) (by omega)) ?_ | refine VV.b (b_ltF (by omega) (by omega)) ?_ | refine VV.b (b_geT (by omega) (by omega)) ?_ | refine VV.b (b_geF (by omega) (by omega)) ?_ | refine VV.b (b_gtT (by omega) (by omega)) ?_ | refine VV.b (b_gtF (by omega) (by omega)) ?_ | refine VV.b (b_leT (by omega) (by omega)) ?_ | refine VV.b (b_leF (by omega) (by omega)) ?_ | refine VV.b (b_eqT (by omega) (by omega)) ?_ | refine VV.b (b_eqF (by omega) (by omega)) ?_ | refine VV.b (b_neT (by omega) (by omega)) ?_ | refine VV.b (b_neF (by omega) (by omega)) ?_)
      · rw [if_neg hs] at hnext
        repeat (first | exact hnext | refine VV.add rfl ?_ | refine VV.inc rfl rfl rfl ?_ | refine VV.mul rfl ?_ | refine VV.sub rfl (by omega) ?_ | refine VV.shl1 rfl (by omega) ?_ | refine VV.shl rfl ⟨by omega, by omega⟩ ?_ | refine VV.shr rfl ⟨by omega, by omega⟩ ?_ | refine VV.and rfl ?_ | refine VV.s rfl ?_ | refine VV.gn rfl (rdG hg).1 rfl hn ?_ | refine VV.g rfl (rdG hg).1 rfl ?_ | refine VV.b (b_ltT (by omega) (by omega)) ?_ | refine VV.b (b_ltF (by omega) (by omega)) ?_ | refine VV.b (b_geT (by omega) (by omega)) ?_ | refine VV.b (b_geF (by omega) (by omega)) ?_ | refine VV.b (b_gtT (by omega) (by omega)) ?_ | refine VV.b (b_gtF (by omega) (by omega)) ?_ | refine VV.b (b_leT (by omega) (by omega)) ?_ | refine VV.b (b_leF (by omega) (by omega)) ?_ | refine VV.b (b_eqT (by omega) (by omega)) ?_ | refine VV.b (b_eqF (by omega) (by omega)) ?_ | refine VV.b (b_neT (by omega) (by omega)) ?_ | refine VV.b (b_neF (by omega) (by omega)) ?_)
    · repeat (first | refine VV.add rfl ?_ | refine VV.inc rfl rfl rfl ?_ | refine VV.mul rfl ?_ | refine VV.sub rfl (by omega) ?_ | refine VV.shl1 rfl (by omega) ?_ | refine VV.shl rfl ⟨by omega, by omega⟩ ?_ | refine VV.shr rfl ⟨by omega, by omega⟩ ?_ | refine VV.and rfl ?_ | refine VV.s rfl ?_ | refine VV.gn rfl (rdG hg).1 rfl hn ?_ | refine VV.g rfl (rdG hg).1 rfl ?_ | refine VV.b (b_ltT (by omega) (by omega)) ?_ | refine VV.b (b_ltF (by omega) (by omega)) ?_ | refine VV.b (b_geT (by omega) (by omega)) ?_ | refine VV.b (b_geF (by omega) (by omega)) ?_ | refine VV.b (b_gtT (by omega) (by omega)) ?_ | refine VV.b (b_gtF (by omega) (by omega)) ?_ | refine VV.b (b_leT (by omega) (by omega)) ?_ | refine VV.b (b_leF (by omega) (by omega)) ?_ | refine VV.b (b_eqT (by omega) (by omega)) ?_ | refine VV.b (b_eqF (by omega) (by omega)) ?_ | refine VV.b (b_neT (by omega) (by omega)) ?_ | refine VV.b (b_neF (by omega) (by omega)) ?_)
      refine VV.jl rfl (rdG (S := S) (τ := τ) (A := A) (B := up B (g + 2) (lpN (detF (B (g + 1)) n R C) 15 1 (up (B (g + 2)) 0 1))) hg).2.2.2.1 ?_
      rw [(rdG (S := S) (τ := τ) (A := A) (B := up B (g + 2) (lpN (detF (B (g + 1)) n R C) 15 1 (up (B (g + 2)) 0 1))) hg).2.2.2.2.1]
      repeat (first | refine VV.add rfl ?_ | refine VV.inc rfl rfl rfl ?_ | refine VV.mul rfl ?_ | refine VV.sub rfl (by omega) ?_ | refine VV.shl1 rfl (by omega) ?_ | refine VV.shl rfl ⟨by omega, by omega⟩ ?_ | refine VV.shr rfl ⟨by omega, by omega⟩ ?_ | refine VV.and rfl ?_ | refine VV.s rfl ?_ | refine VV.gn rfl (rdG hg).1 rfl hn ?_ | refine VV.g rfl (rdG hg).1 rfl ?_ | refine VV.b (b_ltT (by omega) (by omega)) ?_ | refine VV.b (b_ltF (by omega) (by omega)) ?_ | refine VV.b (b_geT (by omega) (by omega)) ?_ | refine VV.b (b_geF (by omega) (by omega)) ?_ | refine VV.b (b_gtT (by omega) (by omega)) ?_ | refine VV.b (b_gtF (by omega) (by omega)) ?_ | refine VV.b (b_leT (by omega) (by omega)) ?_ | refine VV.b (b_leF (by omega) (by omega)) ?_ | refine VV.b (b_eqT (by omega) (by omega)) ?_ | refine VV.b (b_eqF (by omega) (by omega)) ?_ | refine VV.b (b_neT (by omega) (by omega)) ?_ | refine VV.b (b_neF (by omega) (by omega)) ?_)
      refine VV.cv rfl (rdG hg).1 ?_
      refine c_partOf hg hn h4 hC4 ?_
      rw [up_s]
      repeat refine VV.s rfl ?_
      exact VV.r rfl (q _ rfl)
  repeat (first | refine VV.add rfl ?_ | refine VV.inc rfl rfl rfl ?_ | refine VV.mul rfl ?_ | refine VV.sub rfl (by omega) ?_ | refine VV.shl1 rfl (by omega) ?_ | refine VV.shl rfl ⟨by omega, by omega⟩ ?_ | refine VV.shr rfl ⟨by omega, by omega⟩ ?_ | refine VV.and rfl ?_ | refine VV.s rfl ?_ | refine VV.gn rfl (rdG hg).1 rfl hn ?_ | refine VV.g rfl (rdG hg).1 rfl ?_ | refine VV.b (b_ltT (by omega) (by omega)) ?_ | refine VV.b (b_ltF (by omega) (by omega)) ?_ | refine VV.b (b_geT (by omega) (by omega)) ?_ | refine VV.b (b_geF (by omega) (by omega)) ?_ | refine VV.b (b_gtT (by omega) (by omega)) ?_ | refine VV.b (b_gtF (by omega) (by omega)) ?_ | refine VV.b (b_leT (by omega) (by omega)) ?_ | refine VV.b (b_leF (by omega) (by omega)) ?_ | refine VV.b (b_eqT (by omega) (by omega)) ?_ | refine VV.b (b_eqF (by omega) (by omega)) ?_ | refine VV.b (b_neT (by omega) (by omega)) ?_ | refine VV.b (b_neF (by omega) (by omega)) ?_)
  refine VV.js rfl (rdG (S := S) (τ := τ) (A := A) (B := B) hg).2.2.2.1 rfl (by rw [(rdG (S := S) (τ := τ) (A := A) (B := B) hg).2.2.2.2.1]; omega) ?_
  repeat (first | exact e0 | refine VV.add rfl ?_ | refine VV.inc rfl rfl rfl ?_ | refine VV.mul rfl ?_ | refine VV.sub rfl (by omega) ?_ | refine VV.shl1 rfl (by omega) ?_ | refine VV.shl rfl ⟨by omega, by omega⟩ ?_ | refine VV.shr rfl ⟨by omega, by omega⟩ ?_ | refine VV.and rfl ?_ | refine VV.s rfl ?_ | refine VV.gn rfl (rdG hg).1 rfl hn ?_ | refine VV.g rfl (rdG hg).1 rfl ?_ | refine VV.b (b_ltT (by omega) (by omega)) ?_ | refine VV.b (b_ltF (by omega) (by omega)) ?_ | refine VV.b (b_geT (by omega) (by omega)) ?_ | refine VV.b (b_geF (by omega) (by omega)) ?_ | refine VV.b (b_gtT (by omega) (by omega)) ?_ | refine VV.b (b_gtF (by omega) (by omega)) ?_ | refine VV.b (b_leT (by omega) (by omega)) ?_ | refine VV.b (b_leF (by omega) (by omega)) ?_ | refine VV.b (b_eqT (by omega) (by omega)) ?_ | refine VV.b (b_eqF (by omega) (by omega)) ?_ | refine VV.b (b_neT (by omega) (by omega)) ?_ | refine VV.b (b_neF (by omega) (by omega)) ?_)
end GL3
