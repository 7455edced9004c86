/-! a Grid: filled, copied, turned, its columns added -/
def FI (src : Nat → Nat → Int64) (n k l : Nat) (E : Nat → Int64) : Prop := ∀ i j, i < n → j < n → (i < k ∨ (i = k ∧ j < l)) → E (4 * i + j) = src i j
theorem FI.step {src : Nat → Nat → Int64} {n k l : Nat} {E : Nat → Int64} (h : FI src n k l E) (h4 : n ≤ 4) (hl : l < n) : FI src n k (l + 1) (up E (4 * k + l) (src k l)) := by
  intro i j hi hj hd
  by_cases e : 4 * i + j = 4 * k + l
  · have e1 : i = k := by omega
    have e2 : j = l := by omega
    subst e1 e2
    rw [up_s]
  · rw [up_n e]
    refine h i j hi hj ?_
    rcases hd with h1 | ⟨h1, h2⟩
    · exact Or.inl h1
    · subst h1
      exact Or.inr ⟨rfl, by omega⟩
theorem FI.row {src : Nat → Nat → Int64} {n k : Nat} {E : Nat → Int64} (h : FI src n k n E) : FI src n (k + 1) 0 E := by
  intro i j hi hj hd
  refine h i j hi hj ?_
  omega
theorem FI.zero {src : Nat → Nat → Int64} {n : Nat} {E : Nat → Int64} : FI src n 0 0 E := by
  intro i j hi hj hd
  omega
theorem FI.fin {src : Nat → Nat → Int64} {n : Nat} {E : Nat → Int64} (h : FI src n n 0 E) : ∀ i j, i < n → j < n → E (4 * i + j) = src i j := fun i j hi hj => h i j hi hj (Or.inl hi)
def sJ (f : Nat → Int64) : Nat → Int64
  | 0 => 0
  | k + 1 => sJ f k + f k
def idm (i j : Nat) : Int64 := if i = j then 1 else 0
def trn (E : Nat → Int64) (n k l : Nat) (E' : Nat → Int64) : Prop := ∀ i j, i < n → j < n → E' (4 * i + j) = if (i < k ∧ j < k) ∨ (i = k ∧ j < l) ∨ (j = k ∧ i < l) then E (4 * j + i) else E (4 * i + j)
theorem trn.step {E E' : Nat → Int64} {n k l : Nat} (h : trn E n k l E') (h4 : n ≤ 4) (hk : k < n) (hl : l < k) : trn E n k (l + 1) (up (up E' (4 * k + l) (E' (4 * l + k))) (4 * l + k) (E' (4 * k + l))) := by
  intro i j hi hj
  by_cases e1 : 4 * i + j = 4 * l + k
  · have a1 : i = l := by omega
    have a2 : j = k := by omega
    subst a1 a2
    rw [up_s, h j i hj hi, if_neg (by omega), if_pos (by omega)]
  · rw [up_n e1]
    by_cases e2 : 4 * i + j = 4 * k + l
    · have a1 : i = k := by omega
      have a2 : j = l := by omega
      subst a1 a2
      rw [up_s, h j i hj hi, if_neg (by omega), if_pos (by omega)]
    · rw [up_n e2, h i j hi hj]
      by_cases c : (i < k ∧ j < k) ∨ (i = k ∧ j < l) ∨ (j = k ∧ i < l)
      · rw [if_pos c, if_pos (by omega)]
      · rw [if_neg c, if_neg (by omega)]
theorem trn.row {E E' : Nat → Int64} {n k : Nat} (h : trn E n k k E') : trn E n (k + 1) 0 E' := by
  intro i j hi hj
  rw [h i j hi hj]
  by_cases e : i = k ∧ j = k
  · rw [e.1, e.2, ite_self, ite_self]
  · by_cases c : (i < k ∧ j < k) ∨ (i = k ∧ j < k) ∨ (j = k ∧ i < k)
    · rw [if_pos c, if_pos (by omega)]
    · rw [if_neg c, if_neg (by omega)]
def tad (E : Nat → Int64) (n p : Nat) (E' : Nat → Int64) : Prop := ∀ i j, i < n → j < n → E' (4 * i + j) = if (i * n + j < p ∧ i * n + j < n * n / 2) ∨ (n * n - 1 - (i * n + j) < p ∧ n * n - 1 - (i * n + j) < n * n / 2) then E (4 * (n - 1 - i) + (n - 1 - j)) else E (4 * i + j)
theorem tad.step {E E' : Nat → Int64} {n k l : Nat} (h : tad E n (k * n + l) E') (h4 : n ≤ 4) (hk : k < n) (hl : l < n) (hh : k * n + l < n * n / 2) : tad E n (k * n + l + 1) (up (up E' (4 * k + l) (E' (4 * (n - 1 - k) + (n - 1 - l)))) (4 * (n - 1 - k) + (n - 1 - l)) (E' (4 * k + l))) := by
  obtain ⟨kk, hkk⟩ : ∃ kk, kk = n - 1 - k := ⟨_, rfl⟩
  obtain ⟨ll, hll⟩ : ∃ ll, ll = n - 1 - l := ⟨_, rfl⟩
  rw [← hkk, ← hll]
  rcases (show n = 1 ∨ n = 2 ∨ n = 3 ∨ n = 4 by omega) with rfl | rfl | rfl | rfl
  all_goals
    intro i j hi hj
    by_cases e1 : i = kk ∧ j = ll
    · obtain ⟨rfl, rfl⟩ := e1
      rw [up_s, h k l hk hl, if_neg (by omega), if_pos (by omega)]
      congr 1
      omega
    · rw [up_n (by omega)]
      by_cases e2 : i = k ∧ j = l
      · obtain ⟨rfl, rfl⟩ := e2
        rw [up_s, h _ _ (by omega) (by omega), if_neg (by omega), if_pos (by omega), ← hkk, ← hll]
      · rw [up_n (by omega), h i j hi hj]
        congr 1
        exact propext (by omega)
theorem tad.skip {E E' : Nat → Int64} {n k l : Nat} (h : tad E n (k * n + l) E') (hh : ¬ k * n + l < n * n / 2) : tad E n (k * n + l + 1) E' := by
  intro i j hi hj
  rw [h i j hi hj]
  congr 1
  exact propext (by omega)
def swr (r i : Nat) : Nat := if i = r then r + 1 else if i = r + 1 then r else i
theorem swr_lt {r i n : Nat} (hr : r + 1 < n) (hi : i < n) : swr r i < n := by
  unfold swr
  split
  · omega
  · split <;> omega
def swI (E : Nat → Int64) (n r l : Nat) (E' : Nat → Int64) : Prop := ∀ i j, i < n → j < n → E' (4 * i + j) = if j < l then E (4 * swr r i + j) else E (4 * i + j)
theorem swI.step {E E' : Nat → Int64} {n r l : Nat} (h : swI E n r l E') (h4 : n ≤ 4) (hr : r + 1 < n) (hl : l < n) : swI E n r (l + 1) (up (up E' (4 * r + l) (E' (4 * (r + 1) + l))) (4 * (r + 1) + l) (E' (4 * r + l))) := by
  intro i j hi hj
  by_cases e1 : i = r + 1 ∧ j = l
  · obtain ⟨rfl, rfl⟩ := e1
    rw [up_s, h r j (by omega) hj, if_neg (by omega), if_pos (by omega), swr, if_neg (by omega), if_pos rfl]
  · rw [up_n (by omega)]
    by_cases e2 : i = r ∧ j = l
    · obtain ⟨rfl, rfl⟩ := e2
      rw [up_s, h (i + 1) j (by omega) hj, if_neg (by omega), if_pos (by omega), swr, if_pos rfl]
    · rw [up_n (by omega), h i j hi hj]
      by_cases c : j < l
      · rw [if_pos c, if_pos (by omega)]
      · rw [if_neg c]
        by_cases c2 : j = l
        · subst c2
          rw [if_pos (by omega), swr, if_neg (by omega), if_neg (by omega)]
        · rw [if_neg (by omega)]
def adI (E : Nat → Int64) (n f t : Nat) (v : Int64) (k : Nat) (E' : Nat → Int64) : Prop := ∀ i j, i < n → j < n → E' (4 * i + j) = if i < k ∧ j = t then E (4 * i + j) + v * E (4 * i + f) else E (4 * i + j)
theorem adI.step {E E' : Nat → Int64} {n f t k : Nat} {v : Int64} (h : adI E n f t v k E') (h4 : n ≤ 4) (hk : k < n) (hf : f < n) (ht : t < n) : adI E n f t v (k + 1) (up E' (4 * k + t) (E' (4 * k + t) + v * E' (4 * k + f))) := by
  intro i j hi hj
  by_cases e : i = k ∧ j = t
  · obtain ⟨rfl, rfl⟩ := e
    rw [up_s, h i j hi hj, h i f hi hf, if_neg (by omega), if_neg (by omega), if_pos (by omega)]
  · rw [up_n (by omega), h i j hi hj]
    by_cases c : i < k ∧ j = t
    · rw [if_pos c, if_pos (by omega)]
    · rw [if_neg c, if_neg (by omega)]
section GL6
variable {S : Cl} {τ : Nat → Int32} {A : Nat → Nat → Int32} {B : Nat → Nat → Int64}
variable {d g n : Nat} {Q : Option Value → Hp → Prop}
theorem c_becomeUnit (hg : (lkp tabG g).isSome = true) {m : Nat} (h4 : m ≤ 4) (q : ∀ E, (∀ i j, i < m → j < m → E (4 * i + j) = idm i j) → Q none (HH S (up τ (100 * g + 2) (nI m)) A (up B (g + 1) E))) : CC (d + 1) M_Grid_becomeUnit [.ref g, .int (nI m)] (HH S τ A B) Q := by
  refine CC.of rfl ?_
  repeat refine VV.s rfl ?_
  refine VV.p rfl (rdG hg).1 (show 2 < 3 by omega) rfl ((rdG hg).2.2.2.2.2 _) ?_
  have hn : up τ (100 * g + 2) (nI m) (100 * g + 2) = nI m := up_s _ _ _
  generalize hτ : up τ (100 * g + 2) (nI m) = τ' at *
  have V := VV.inv (fun k E => FI idm m k 0 E) (fun k E => ∀ x3, VV (d + 1) M_Grid_becomeUnit 7 [some (.ref g), some (.int (nI m)), some (.int (nI k)), x3] [] (HH S τ' A (up B (g + 1) E)) Q) m ?_ ?_ m 0 (B (g + 1)) (by omega) FI.zero none
  · rw [up_id] at V
    repeat (first | exact V | refine VV.add rfl ?_ | refine VV.inc rfl rfl rfl ?_ | refine VV.mul rfl ?_ | refine VV.sub rfl (by omega) ?_ | refine VV.shl1 rfl (by omega) ?_ | refine VV.shl rfl ⟨by omega, by omega⟩ ?_ | refine VV.shr rfl ⟨by omega, by omega⟩ ?_ | refine VV.and rfl ?_ | refine VV.s rfl ?_ | refine VV.gn rfl (rdG hg).1 rfl hn ?_ | refine VV.g rfl (rdG hg).1 rfl ?_ | refine VV.b (b_ltT (by omega) (by omega)) ?_ | refine VV.b (b_ltF (by omega) (by omega)) ?_ | refine VV.b (b_geT (by omega) (by omega)) ?_ | refine VV.b (b_geF (by omega) (by omega)) ?_ | refine VV.b (b_gtT (by omega) (by omega)) ?_ | refine VV.b (b_gtF (by omega) (by omega)) ?_ | refine VV.b (b_leT (by omega) (by omega)) ?_ | refine VV.b (b_leF (by omega) (by omega)) ?_ | refine VV.b (b_eqT (by omega) (by omega)) ?_ | refine VV.b (b_eqF (by omega) (by omega)) ?_ | refine VV.b (b_neT (by omega) (by omega)) ?_ | refine VV.b (b_neF (by omega) (by omega)) ?_)
  · intro k E hk hI nxt x3
    have W := VV.inv (fun l E => FI idm m k l E) (fun l E => VV (d + 1) M_Grid_becomeUnit 17 [some (.ref g), some (.int (nI m)), some (.int (nI k)), some (.int (nI l))] [] (HH S τ' A (up B (g + 1) E)) Q) m ?_ ?_ m 0 E (by omega) hI
    · repeat (first | exact W | refine VV.add rfl ?_ | refine VV.inc rfl rfl rfl ?_ | refine VV.mul rfl ?_ | refine VV.sub rfl (by omega) ?_ | refine VV.shl1 rfl (by omega) ?_ | refine VV.shl rfl ⟨by omega, by omega⟩ ?_ | refine VV.shr rfl ⟨by omega, by omega⟩ ?_ | refine VV.and rfl ?_ | refine VV.s rfl ?_ | refine VV.gn rfl (rdG hg).1 rfl hn ?_ | refine VV.g rfl (rdG hg).1 rfl ?_ | refine VV.b (b_ltT (by omega) (by omega)) ?_ | refine VV.b (b_ltF (by omega) (by omega)) ?_ | refine VV.b (b_geT (by omega) (by omega)) ?_ | refine VV.b (b_geF (by omega) (by omega)) ?_ | refine VV.b (b_gtT (by omega) (by omega)) ?_ | refine VV.b (b_gtF (by omega) (by omega)) ?_ | refine VV.b (b_leT (by omega) (by omega)) ?_ | refine VV.b (b_leF (by omega) (by omega)) ?_ | refine VV.b (b_eqT (by omega) (by omega)) ?_ | refine VV.b (b_eqF (by omega) (by omega)) ?_ | refine VV.b (b_neT (by omega) (by omega)) ?_ | refine VV.b (b_neF (by omega) (by omega)) ?_)
    · intro l E hl hI nx2
      repeat (first | refine VV.add rfl ?_ | refine VV.inc rfl rfl rfl ?_ | refine VV.mul rfl ?_ | refine VV.sub rfl (by omega) ?_ | refine VV.shl1 rfl (by omega) ?_ | refine VV.shl rfl ⟨by omega, by omega⟩ ?_ | refine VV.shr rfl ⟨by omega, by omega⟩ ?_ | refine VV.and rfl ?_ | refine VV.s rfl ?_ | refine VV.gn rfl (rdG hg).1 rfl hn ?_ | refine VV.g rfl (rdG hg).1 rfl ?_ | refine VV.b (b_ltT (by omega) (by omega)) ?_ | refine VV.b (b_ltF (by omega) (by omega)) ?_ | refine VV.b (b_geT (by omega) (by omega)) ?_ | refine VV.b (b_geF (by omega) (by omega)) ?_ | refine VV.b (b_gtT (by omega) (by omega)) ?_ | refine VV.b (b_gtF (by omega) (by omega)) ?_ | refine VV.b (b_leT (by omega) (by omega)) ?_ | refine VV.b (b_leF (by omega) (by omega)) ?_ | refine VV.b (b_eqT (by omega) (by omega)) ?_ | refine VV.b (b_eqF (by omega) (by omega)) ?_ | refine VV.b (b_neT (by omega) (by omega)) ?_ | refine VV.b (b_neF (by omega) (by omega)) ?_)
      have st := hI.step h4 hl
      by_cases c : k = l
      · have e1 : idm k l = 1 := if_pos c
        rw [e1] at st
        have := nx2 _ st
        repeat (first | refine VV.add rfl ?_ | refine VV.inc rfl rfl rfl ?_ | refine VV.mul rfl ?_ | refine VV.sub rfl (by omega) ?_ | refine VV.shl1 rfl (by omega) ?_ | refine VV.shl rfl ⟨by omega, by omega⟩ ?_ | refine VV.shr rfl ⟨by omega, by omega⟩ ?_ | refine VV.and rfl ?_ | refine VV.s rfl ?_ | refine VV.gn rfl (rdG hg).1 rfl hn ?_ | refine VV.g rfl (rdG hg).1 rfl ?_ | refine VV.b (b_ltT (by omega) (by omega)) ?_ | refine VV.b (b_ltF (by omega) (by omega)) ?_ | refine VV.b (b_geT (by omega) (by omega)) ?_ | refine VV.b (b_geF (by omega) (by omega)) ?_ | refine VV.b (b_gtT (by omega) (by omega)) ?_ | refine VV.b (b_gtF (by omega) (by omega)) ?_ | refine VV.b (b_leT (by omega) (by omega)) ?_ | refine VV.b (b_leF (by omega) (by omega)) ?_ | refine VV.b (b_eqT (by omega) (by omega)) ?_ | refine VV.b (b_eqF (by omega) (by omega)) ?_ | refine VV.b (b_neT (by omega) (by omega)) ?_ | refine VV.b (b_neF (by omega) (by omega)) ?_)
        (refine VV.cv rfl (rdG hg).1 ?_; refine c_put hg hn h4 hk hl ?_)
        rw [up_up, up_s]
        repeat (first | exact this | refine VV.add rfl ?_ | refine VV.inc rfl rfl rfl ?_ | refine VV.mul rfl ?_ | refine VV.sub rfl (by omega) ?_ | refine VV.shl1 rfl (by omega) ?_ | refine VV.shl rfl ⟨by omega, by omega⟩ ?_ | refine VV.shr rfl ⟨by omega, by omega⟩ ?_ | refine VV.and rfl ?_ | refine VV.s rfl ?_ | refine VV.gn rfl (rdG hg).1 rfl hn ?_ | refine VV.g rfl (rdG hg).1 rfl ?_ | refine VV.b (b_ltT (by omega) (by omega)) ?_ | refine VV.b (b_ltF (by omega) (by omega)) ?_ | refine VV.b (b_geT (by omega) (by omega)) ?_ | refine VV.b (b_geF (by omega) (by omega)) ?_ | refine VV.b (b_gtT (by omega) (by omega)) ?_ | refine VV.b (b_gtF (by omega) (by omega)) ?_ | refine VV.b (b_leT (by omega) (by omega)) ?_ | refine VV.b (b_leF (by omega) (by omega)) ?_ | refine VV.b (b_eqT (by omega) (by omega)) ?_ | refine VV.b (b_eqF (by omega) (by omega)) ?_ | refine VV.b (b_neT (by omega) (by omega)) ?_ | refine VV.b (b_neF (by omega) (by omega)) ?_)
      · have e1 : idm k l = 0 := if_neg c
        rw [e1] at st
        have := nx2 _ st
        repeat (first | refine VV.add rfl ?_ | refine VV.inc rfl rfl rfl ?_ | refine VV.mul rfl ?_ | refine VV.sub rfl (by omega) ?_ | refine VV.shl1 rfl (by omega) ?_ | refine VV.shl rfl ⟨by omega, by omega⟩ ?_ | refine VV.shr rfl ⟨by omega, by omega⟩ ?_ | refine VV.and rfl ?_ | refine VV.s rfl ?_ | refine VV.gn rfl (rdG hg).1 rfl hn ?_ | refine VV.g rfl (rdG hg).1 rfl ?_ | refine VV.b (b_ltT (by omega) (by omega)) ?_ | refine VV.b (b_ltF (by omega) (by omega)) ?_ | refine VV.b (b_geT (by omega) (by omega)) ?_ | refine VV.b (b_geF (by omega) (by omega)) ?_ | refine VV.b (b_gtT (by omega) (by omega)) ?_ | refine VV.b (b_gtF (by omega) (by omega)) ?_ | refine VV.b (b_leT (by omega) (by omega)) ?_ | refine VV.b (b_leF (by omega) (by omega)) ?_ | refine VV.b (b_eqT (by omega) (by omega)) ?_ | refine VV.b (b_eqF (by omega) (by omega)) ?_ | refine VV.b (b_neT (by omega) (by omega)) ?_ | refine VV.b (b_neF (by omega) (by omega)) ?_)
        (refine VV.cv rfl (rdG hg).1 ?_; refine c_put hg hn h4 hk hl ?_)
        rw [up_up, up_s]
        repeat (first | exact this | refine VV.add rfl ?_ | refine VV.inc rfl rfl rfl ?_ | refine VV.mul rfl ?_ | refine VV.sub rfl (by omega) ?_ | refine VV.shl1 rfl (by omega) ?_ | refine VV.shl rfl ⟨by omega, by omega⟩ ?_ | refine VV.shr rfl ⟨by omega, by omega⟩ ?_ | refine VV.and rfl ?_ | refine VV.s rfl ?_ | refine VV.gn rfl (rdG hg).1 rfl hn ?_ | refine VV.g rfl (rdG hg).1 rfl ?_ | refine VV.b (b_ltT (by omega) (by omega)) ?_ | refine VV.b (b_ltF (by omega) (by omega)) ?_ | refine VV.b (b_geT (by omega) (by omega)) ?_ | refine VV.b (b_geF (by omega) (by omega)) ?_ | refine VV.b (b_gtT (by omega) (by omega)) ?_ | refine VV.b (b_gtF (by omega) (by omega)) ?_ | refine VV.b (b_leT (by omega) (by omega)) ?_ | refine VV.b (b_leF (by omega) (by omega)) ?_ | refine VV.b (b_eqT (by omega) (by omega)) ?_ | refine VV.b (b_eqF (by omega) (by omega)) ?_ | refine VV.b (b_neT (by omega) (by omega)) ?_ | refine VV.b (b_neF (by omega) (by omega)) ?_)
    · intro E hI
      have := nxt E hI.row (some (.int (nI m)))
      repeat (first | exact this | refine VV.add rfl ?_ | refine VV.inc rfl rfl rfl ?_ | refine VV.mul rfl ?_ | refine VV.sub rfl (by omega) ?_ | refine VV.shl1 rfl (by omega) ?_ | refine VV.shl rfl ⟨by omega, by omega⟩ ?_ | refine VV.shr rfl ⟨by omega, by omega⟩ ?_ | refine VV.and rfl ?_ | refine VV.s rfl ?_ | refine VV.gn rfl (rdG hg).1 rfl hn ?_ | refine VV.g rfl (rdG hg).1 rfl ?_ | refine VV.b (b_ltT (by omega) (by omega)) ?_ | refine VV.b (b_ltF (by omega) (by omega)) ?_ | refine VV.b (b_geT (by omega) (by omega)) ?_ | refine VV.b (b_geF (by omega) (by omega)) ?_ | refine VV.b (b_gtT (by omega) (by omega)) ?_ | refine VV.b (b_gtF (by omega) (by omega)) ?_ | refine VV.b (b_leT (by omega) (by omega)) ?_ | refine VV.b (b_leF (by omega) (by omega)) ?_ | refine VV.b (b_eqT (by omega) (by omega)) ?_ | refine VV.b (b_eqF (by omega) (by omega)) ?_ | refine VV.b (b_neT (by omega) (by omega)) ?_ | refine VV.b (b_neF (by omega) (by omega)) ?_)
  · intro E hI x3
    have := q E hI.fin
    repeat (first | refine VV.add rfl ?_ | refine VV.inc rfl rfl rfl ?_ | refine VV.mul rfl ?_ | refine VV.sub rfl (by omega) ?_ | refine VV.shl1 rfl (by omega) ?_ | refine VV.shl rfl ⟨by omega, by omega⟩ ?_ | refine VV.shr rfl ⟨by omega, by omega⟩ ?_ | refine VV.and rfl ?_ | refine VV.s rfl ?_ | refine VV.gn rfl (rdG hg).1 rfl hn ?_ | refine VV.g rfl (rdG hg).1 rfl ?_ | refine VV.b (b_ltT (by omega) (by omega)) ?_ | refine VV.b (b_ltF (by omega) (by omega)) ?_ | refine VV.b (b_geT (by omega) (by omega)) ?_ | refine VV.b (b_geF (by omega) (by omega)) ?_ | refine VV.b (b_gtT (by omega) (by omega)) ?_ | refine VV.b (b_gtF (by omega) (by omega)) ?_ | refine VV.b (b_leT (by omega) (by omega)) ?_ | refine VV.b (b_leF (by omega) (by omega)) ?_ | refine VV.b (b_eqT (by omega) (by omega)) ?_ | refine VV.b (b_eqF (by omega) (by omega)) ?_ | refine VV.b (b_neT (by omega) (by omega)) ?_ | refine VV.b (b_neF (by omega) (by omega)) ?_)
    exact VV.r rfl this
theorem c_copyFrom (hg : (lkp tabG g).isSome = true) {o : Nat} (ho : (lkp tabG o).isSome = true) (hgo : o ≠ g) (hno : τ (100 * o + 2) = nI n) (h4 : n ≤ 4) (q : ∀ E, (∀ i j, i < n → j < n → E (4 * i + j) = B (o + 1) (4 * i + j)) → Q none (HH S (up τ (100 * g + 2) (nI n)) A (up B (g + 1) E))) : CC (d + 1) M_Grid_copyFrom [.ref g, .ref o] (HH S τ A B) Q := by
  refine CC.of rfl ?_
  repeat (first | refine VV.add rfl ?_ | refine VV.inc rfl rfl rfl ?_ | refine VV.mul rfl ?_ | refine VV.sub rfl (by omega) ?_ | refine VV.shl1 rfl (by omega) ?_ | refine VV.shl rfl ⟨by omega, by omega⟩ ?_ | refine VV.shr rfl ⟨by omega, by omega⟩ ?_ | refine VV.and rfl ?_ | refine VV.s rfl ?_ | refine VV.gn rfl (rdG ho).1 rfl hno ?_ | refine VV.g rfl (rdG ho).1 rfl ?_ | refine VV.b (b_ltT (by omega) (by omega)) ?_ | refine VV.b (b_ltF (by omega) (by omega)) ?_ | refine VV.b (b_geT (by omega) (by omega)) ?_ | refine VV.b (b_geF (by omega) (by omega)) ?_ | refine VV.b (b_gtT (by omega) (by omega)) ?_ | refine VV.b (b_gtF (by omega) (by omega)) ?_ | refine VV.b (b_leT (by omega) (by omega)) ?_ | refine VV.b (b_leF (by omega) (by omega)) ?_ | refine VV.b (b_eqT (by omega) (by omega)) ?_ | refine VV.b (b_eqF (by omega) (by omega)) ?_ | refine VV.b (b_neT (by omega) (by omega)) ?_ | refine VV.b (b_neF (by omega) (by omega)) ?_)
  refine VV.p rfl (rdG hg).1 (show 2 < 3 by omega) rfl ((rdG hg).2.2.2.2.2 _) ?_
  have hn : up τ (100 * g + 2) (nI n) (100 * g + 2) = nI n := up_s _ _ _
  have hno' : up τ (100 * g + 2) (nI n) (100 * o + 2) = nI n := by rw [up_n (by omega), hno]
  generalize hτ : up τ (100 * g + 2) (nI n) = τ' at *
  have V := VV.inv (fun k E => FI (fun i j => B (o + 1) (4 * i + j)) n k 0 E) (fun k E => ∀ x3, VV (d + 1) M_Grid_copyFrom 10 [some (.ref g), some (.ref o), some (.int (nI k)), x3] [] (HH S τ' A (up B (g + 1) E)) Q) n ?_ ?_ n 0 (B (g + 1)) (by omega) FI.zero none
  · rw [up_id] at V
    repeat (first | exact V | refine VV.add rfl ?_ | refine VV.inc rfl rfl rfl ?_ | refine VV.mul rfl ?_ | refine VV.sub rfl (by omega) ?_ | refine VV.shl1 rfl (by omega) ?_ | refine VV.shl rfl ⟨by omega, by omega⟩ ?_ | refine VV.shr rfl ⟨by omega, by omega⟩ ?_ | refine VV.and rfl ?_ | refine VV.s rfl ?_ | refine VV.gn rfl (rdG hg).1 rfl hn ?_ | refine VV.g rfl (rdG hg).1 rfl ?_ | refine VV.b (b_ltT (by omega) (by omega)) ?_ | refine VV.b (b_ltF (by omega) (by omega)) ?_ | refine VV.b (b_geT (by omega) (by omega)) ?_ | refine VV.b (b_geF (by omega) (by omega)) ?_ | refine VV.b (b_gtT (by omega) (by omega)) ?_ | refine VV.b (b_gtF (by omega) (by omega)) ?_ | refine VV.b (b_leT (by omega) (by omega)) ?_ | refine VV.b (b_leF (by omega) (by omega)) ?_ | refine VV.b (b_eqT (by omega) (by omega)) ?_ | refine VV.b (b_eqF (by omega) (by omega)) ?_ | refine VV.b (b_neT (by omega) (by omega)) ?_ | refine VV.b (b_neF (by omega) (by omega)) ?_)
  · intro k E hk hI nxt x3
    have W := VV.inv (fun l E => FI (fun i j => B (o + 1) (4 * i + j)) n k l E) (fun l E => VV (d + 1) M_Grid_copyFrom 20 [some (.ref g), some (.ref o), some (.int (nI k)), some (.int (nI l))] [] (HH S τ' A (up B (g + 1) E)) Q) n ?_ ?_ n 0 E (by omega) hI
    · repeat (first | exact W | refine VV.add rfl ?_ | refine VV.inc rfl rfl rfl ?_ | refine VV.mul rfl ?_ | refine VV.sub rfl (by omega) ?_ | refine VV.shl1 rfl (by omega) ?_ | refine VV.shl rfl ⟨by omega, by omega⟩ ?_ | refine VV.shr rfl ⟨by omega, by omega⟩ ?_ | refine VV.and rfl ?_ | refine VV.s rfl ?_ | refine VV.gn rfl (rdG hg).1 rfl hn ?_ | refine VV.g rfl (rdG hg).1 rfl ?_ | refine VV.b (b_ltT (by omega) (by omega)) ?_ | refine VV.b (b_ltF (by omega) (by omega)) ?_ | refine VV.b (b_geT (by omega) (by omega)) ?_ | refine VV.b (b_geF (by omega) (by omega)) ?_ | refine VV.b (b_gtT (by omega) (by omega)) ?_ | refine VV.b (b_gtF (by omega) (by omega)) ?_ | refine VV.b (b_leT (by omega) (by omega)) ?_ | refine VV.b (b_leF (by omega) (by omega)) ?_ | refine VV.b (b_eqT (by omega) (by omega)) ?_ | refine VV.b (b_eqF (by omega) (by omega)) ?_ | refine VV.b (b_neT (by omega) (by omega)) ?_ | refine VV.b (b_neF (by omega) (by omega)) ?_)
    · intro l E hl hI nx2
      have := nx2 _ (hI.step h4 hl)
      repeat (first | refine VV.add rfl ?_ | refine VV.inc rfl rfl rfl ?_ | refine VV.mul rfl ?_ | refine VV.sub rfl (by omega) ?_ | refine VV.shl1 rfl (by omega) ?_ | refine VV.shl rfl ⟨by omega, by omega⟩ ?_ | refine VV.shr rfl ⟨by omega, by omega⟩ ?_ | refine VV.and rfl ?_ | refine VV.s rfl ?_ | refine VV.gn rfl (rdG hg).1 rfl hn ?_ | refine VV.g rfl (rdG hg).1 rfl ?_ | refine VV.b (b_ltT (by omega) (by omega)) ?_ | refine VV.b (b_ltF (by omega) (by omega)) ?_ | refine VV.b (b_geT (by omega) (by omega)) ?_ | refine VV.b (b_geF (by omega) (by omega)) ?_ | refine VV.b (b_gtT (by omega) (by omega)) ?_ | refine VV.b (b_gtF (by omega) (by omega)) ?_ | refine VV.b (b_leT (by omega) (by omega)) ?_ | refine VV.b (b_leF (by omega) (by omega)) ?_ | refine VV.b (b_eqT (by omega) (by omega)) ?_ | refine VV.b (b_eqF (by omega) (by omega)) ?_ | refine VV.b (b_neT (by omega) (by omega)) ?_ | refine VV.b (b_neF (by omega) (by omega)) ?_)
      (refine VV.cv rfl (rdG ho).1 ?_; refine c_at ho hno' h4 hk hl ?_)
      rw [up_n (show o + 1 ≠ g + 1 by omega)]
      repeat refine VV.s rfl ?_
      (refine VV.cv rfl (rdG hg).1 ?_; refine c_put hg hn h4 hk hl ?_)
      rw [up_up, up_s]
      repeat (first | exact this | refine VV.add rfl ?_ | refine VV.inc rfl rfl rfl ?_ | refine VV.mul rfl ?_ | refine VV.sub rfl (by omega) ?_ | refine VV.shl1 rfl (by omega) ?_ | refine VV.shl rfl ⟨by omega, by omega⟩ ?_ | refine VV.shr rfl ⟨by omega, by omega⟩ ?_ | refine VV.and rfl ?_ | refine VV.s rfl ?_ | refine VV.gn rfl (rdG hg).1 rfl hn ?_ | refine VV.g rfl (rdG hg).1 rfl ?_ | refine VV.b (b_ltT (by omega) (by omega)) ?_ | refine VV.b (b_ltF (by omega) (by omega)) ?_ | refine VV.b (b_geT (by omega) (by omega)) ?_ | refine VV.b (b_geF (by omega) (by omega)) ?_ | refine VV.b (b_gtT (by omega) (by omega)) ?_ | refine VV.b (b_gtF (by omega) (by omega)) ?_ | refine VV.b (b_leT (by omega) (by omega)) ?_ | refine VV.b (b_leF (by omega) (by omega)) ?_ | refine VV.b (b_eqT (by omega) (by omega)) ?_ | refine VV.b (b_eqF (by omega) (by omega)) ?_ | refine VV.b (b_neT (by omega) (by omega)) ?_ | refine VV.b (b_neF (by omega) (by omega)) ?_)
    · intro E hI
      have := nxt E hI.row (some (.int (nI n)))
      repeat (first | exact this | refine VV.add rfl ?_ | refine VV.inc rfl rfl rfl ?_ | refine VV.mul rfl ?_ | refine VV.sub rfl (by omega) ?_ | refine VV.shl1 rfl (by omega) ?_ | refine VV.shl rfl ⟨by omega, by omega⟩ ?_ | refine VV.shr rfl ⟨by omega, by omega⟩ ?_ | refine VV.and rfl ?_ | refine VV.s rfl ?_ | refine VV.gn rfl (rdG hg).1 rfl hn ?_ | refine VV.g rfl (rdG hg).1 rfl ?_ | refine VV.b (b_ltT (by omega) (by omega)) ?_ | refine VV.b (b_ltF (by omega) (by omega)) ?_ | refine VV.b (b_geT (by omega) (by omega)) ?_ | refine VV.b (b_geF (by omega) (by omega)) ?_ | refine VV.b (b_gtT (by omega) (by omega)) ?_ | refine VV.b (b_gtF (by omega) (by omega)) ?_ | refine VV.b (b_leT (by omega) (by omega)) ?_ | refine VV.b (b_leF (by omega) (by omega)) ?_ | refine VV.b (b_eqT (by omega) (by omega)) ?_ | refine VV.b (b_eqF (by omega) (by omega)) ?_ | refine VV.b (b_neT (by omega) (by omega)) ?_ | refine VV.b (b_neF (by omega) (by omega)) ?_)
  · intro E hI x3
    have := q E hI.fin
    repeat (first | refine VV.add rfl ?_ | refine VV.inc rfl rfl rfl ?_ | refine VV.mul rfl ?_ | refine VV.sub rfl (by omega) ?_ | refine VV.shl1 rfl (by omega) ?_ | refine VV.shl rfl ⟨by omega, by omega⟩ ?_ | refine VV.shr rfl ⟨by omega, by omega⟩ ?_ | refine VV.and rfl ?_ | refine VV.s rfl ?_ | refine VV.gn rfl (rdG hg).1 rfl hn ?_ | refine VV.g rfl (rdG hg).1 rfl ?_ | refine VV.b (b_ltT (by omega) (by omega)) ?_ | refine VV.b (b_ltF (by omega) (by omega)) ?_ | refine VV.b (b_geT (by omega) (by omega)) ?_ | refine VV.b (b_geF (by omega) (by omega)) ?_ | refine VV.b (b_gtT (by omega) (by omega)) ?_ | refine VV.b (b_gtF (by omega) (by omega)) ?_ | refine VV.b (b_leT (by omega) (by omega)) ?_ | refine VV.b (b_leF (by omega) (by omega)) ?_ | refine VV.b (b_eqT (by omega) (by omega)) ?_ | refine VV.b (b_eqF (by omega) (by omega)) ?_ | refine VV.b (b_neT (by omega) (by omega)) ?_ | refine VV.b (b_neF (by omega) (by omega)) ?_)
    exact VV.r rfl this
theorem c_turnOver (hg : (lkp tabG g).isSome = true) (hn : τ (100 * g + 2) = nI n) (h4 : n ≤ 4) (q : ∀ E, (∀ i j, i < n → j < n → E (4 * i + j) = B (g + 1) (4 * j + i)) → Q none (HH S τ A (up B (g + 1) E))) : CC (d + 2) M_Grid_turnOver [.ref g] (HH S τ A B) Q := by
  refine CC.of rfl ?_
  have V := VV.inv (fun k E => trn (B (g + 1)) n k 0 E) (fun k E => ∀ x2, VV (d + 2) M_Grid_turnOver 2 [some (.ref g), some (.int (nI k)), x2] [] (HH S τ A (up B (g + 1) E)) Q) n ?_ ?_ n 0 (B (g + 1)) (by omega) (fun i j _ _ => by rw [if_neg (by omega)]) none
  · rw [up_id] at V
    repeat (first | exact V | refine VV.add rfl ?_ | refine VV.inc rfl rfl rfl ?_ | refine VV.mul rfl ?_ | refine VV.sub rfl (by omega) ?_ | refine VV.shl1 rfl (by omega) ?_ | refine VV.shl rfl ⟨by omega, by omega⟩ ?_ | refine VV.shr rfl ⟨by omega, by omega⟩ ?_ | refine VV.and rfl ?_ | refine VV.s rfl ?_ | refine VV.gn rfl (rdG hg).1 rfl hn ?_ | refine VV.g rfl (rdG hg).1 rfl ?_ | refine VV.b (b_ltT (by omega) (by omega)) ?_ | refine VV.b (b_ltF (by omega) (by omega)) ?_ | refine VV.b (b_geT (by omega) (by omega)) ?_ | refine VV.b (b_geF (by omega) (by omega)) ?_ | refine VV.b (b_gtT (by omega) (by omega)) ?_ | refine VV.b (b_gtF (by omega) (by omega)) ?_ | refine VV.b (b_leT (by omega) (by omega)) ?_ | refine VV.b (b_leF (by omega) (by omega)) ?_ | refine VV.b (b_eqT (by omega) (by omega)) ?_ | refine VV.b (b_eqF (by omega) (by omega)) ?_ | refine VV.b (b_neT (by omega) (by omega)) ?_ | refine VV.b (b_neF (by omega) (by omega)) ?_)
  · intro k E hk hI nxt x2
    have W := VV.inv (fun l E => trn (B (g + 1)) n k l E) (fun l E => VV (d + 2) M_Grid_turnOver 12 [some (.ref g), some (.int (nI k)), some (.int (nI l))] [] (HH S τ A (up B (g + 1) E)) Q) k ?_ ?_ k 0 E (by omega) hI
    · repeat (first | exact W | refine VV.add rfl ?_ | refine VV.inc rfl rfl rfl ?_ | refine VV.mul rfl ?_ | refine VV.sub rfl (by omega) ?_ | refine VV.shl1 rfl (by omega) ?_ | refine VV.shl rfl ⟨by omega, by omega⟩ ?_ | refine VV.shr rfl ⟨by omega, by omega⟩ ?_ | refine VV.and rfl ?_ | refine VV.s rfl ?_ | refine VV.gn rfl (rdG hg).1 rfl hn ?_ | refine VV.g rfl (rdG hg).1 rfl ?_ | refine VV.b (b_ltT (by omega) (by omega)) ?_ | refine VV.b (b_ltF (by omega) (by omega)) ?_ | refine VV.b (b_geT (by omega) (by omega)) ?_ | refine VV.b (b_geF (by omega) (by omega)) ?_ | refine VV.b (b_gtT (by omega) (by omega)) ?_ | refine VV.b (b_gtF (by omega) (by omega)) ?_ | refine VV.b (b_leT (by omega) (by omega)) ?_ | refine VV.b (b_leF (by omega) (by omega)) ?_ | refine VV.b (b_eqT (by omega) (by omega)) ?_ | refine VV.b (b_eqF (by omega) (by omega)) ?_ | refine VV.b (b_neT (by omega) (by omega)) ?_ | refine VV.b (b_neF (by omega) (by omega)) ?_)
    · intro l E hl hI nx2
      have := nx2 _ (hI.step h4 hk hl)
      repeat (first | refine VV.add rfl ?_ | refine VV.inc rfl rfl rfl ?_ | refine VV.mul rfl ?_ | refine VV.sub rfl (by omega) ?_ | refine VV.shl1 rfl (by omega) ?_ | refine VV.shl rfl ⟨by omega, by omega⟩ ?_ | refine VV.shr rfl ⟨by omega, by omega⟩ ?_ | refine VV.and rfl ?_ | refine VV.s rfl ?_ | refine VV.gn rfl (rdG hg).1 rfl hn ?_ | refine VV.g rfl (rdG hg).1 rfl ?_ | refine VV.b (b_ltT (by omega) (by omega)) ?_ | refine VV.b (b_ltF (by omega) (by omega)) ?_ | refine VV.b (b_geT (by omega) (by omega)) ?_ | refine VV.b (b_geF (by omega) (by omega)) ?_ | refine VV.b (b_gtT (by omega) (by omega)) ?_ | refine VV.b (b_gtF (by omega) (by omega)) ?_ | refine VV.b (b_leT (by omega) (by omega)) ?_ | refine VV.b (b_leF (by omega) (by omega)) ?_ | refine VV.b (b_eqT (by omega) (by omega)) ?_ | refine VV.b (b_eqF (by omega) (by omega)) ?_ | refine VV.b (b_neT (by omega) (by omega)) ?_ | refine VV.b (b_neF (by omega) (by omega)) ?_)
      (refine VV.cv rfl (rdG hg).1 ?_; refine c_swap hg hn h4 hk (show l < n by omega) (show l < n by omega) hk ?_)
      rw [up_up, up_s]
      repeat (first | exact this | refine VV.add rfl ?_ | refine VV.inc rfl rfl rfl ?_ | refine VV.mul rfl ?_ | refine VV.sub rfl (by omega) ?_ | refine VV.shl1 rfl (by omega) ?_ | refine VV.shl rfl ⟨by omega, by omega⟩ ?_ | refine VV.shr rfl ⟨by omega, by omega⟩ ?_ | refine VV.and rfl ?_ | refine VV.s rfl ?_ | refine VV.gn rfl (rdG hg).1 rfl hn ?_ | refine VV.g rfl (rdG hg).1 rfl ?_ | refine VV.b (b_ltT (by omega) (by omega)) ?_ | refine VV.b (b_ltF (by omega) (by omega)) ?_ | refine VV.b (b_geT (by omega) (by omega)) ?_ | refine VV.b (b_geF (by omega) (by omega)) ?_ | refine VV.b (b_gtT (by omega) (by omega)) ?_ | refine VV.b (b_gtF (by omega) (by omega)) ?_ | refine VV.b (b_leT (by omega) (by omega)) ?_ | refine VV.b (b_leF (by omega) (by omega)) ?_ | refine VV.b (b_eqT (by omega) (by omega)) ?_ | refine VV.b (b_eqF (by omega) (by omega)) ?_ | refine VV.b (b_neT (by omega) (by omega)) ?_ | refine VV.b (b_neF (by omega) (by omega)) ?_)
    · intro E hI
      have := nxt E hI.row (some (.int (nI k)))
      repeat (first | exact this | refine VV.add rfl ?_ | refine VV.inc rfl rfl rfl ?_ | refine VV.mul rfl ?_ | refine VV.sub rfl (by omega) ?_ | refine VV.shl1 rfl (by omega) ?_ | refine VV.shl rfl ⟨by omega, by omega⟩ ?_ | refine VV.shr rfl ⟨by omega, by omega⟩ ?_ | refine VV.and rfl ?_ | refine VV.s rfl ?_ | refine VV.gn rfl (rdG hg).1 rfl hn ?_ | refine VV.g rfl (rdG hg).1 rfl ?_ | refine VV.b (b_ltT (by omega) (by omega)) ?_ | refine VV.b (b_ltF (by omega) (by omega)) ?_ | refine VV.b (b_geT (by omega) (by omega)) ?_ | refine VV.b (b_geF (by omega) (by omega)) ?_ | refine VV.b (b_gtT (by omega) (by omega)) ?_ | refine VV.b (b_gtF (by omega) (by omega)) ?_ | refine VV.b (b_leT (by omega) (by omega)) ?_ | refine VV.b (b_leF (by omega) (by omega)) ?_ | refine VV.b (b_eqT (by omega) (by omega)) ?_ | refine VV.b (b_eqF (by omega) (by omega)) ?_ | refine VV.b (b_neT (by omega) (by omega)) ?_ | refine VV.b (b_neF (by omega) (by omega)) ?_)
  · intro E hI x2
    have := q E (fun i j hi hj => by rw [hI i j hi hj, if_pos (by omega)])
    repeat (first | refine VV.add rfl ?_ | refine VV.inc rfl rfl rfl ?_ | refine VV.mul rfl ?_ | refine VV.sub rfl (by omega) ?_ | refine VV.shl1 rfl (by omega) ?_ | refine VV.shl rfl ⟨by omega, by omega⟩ ?_ | refine VV.shr rfl ⟨by omega, by omega⟩ ?_ | refine VV.and rfl ?_ | refine VV.s rfl ?_ | refine VV.gn rfl (rdG hg).1 rfl hn ?_ | refine VV.g rfl (rdG hg).1 rfl ?_ | refine VV.b (b_ltT (by omega) (by omega)) ?_ | refine VV.b (b_ltF (by omega) (by omega)) ?_ | refine VV.b (b_geT (by omega) (by omega)) ?_ | refine VV.b (b_geF (by omega) (by omega)) ?_ | refine VV.b (b_gtT (by omega) (by omega)) ?_ | refine VV.b (b_gtF (by omega) (by omega)) ?_ | refine VV.b (b_leT (by omega) (by omega)) ?_ | refine VV.b (b_leF (by omega) (by omega)) ?_ | refine VV.b (b_eqT (by omega) (by omega)) ?_ | refine VV.b (b_eqF (by omega) (by omega)) ?_ | refine VV.b (b_neT (by omega) (by omega)) ?_ | refine VV.b (b_neF (by omega) (by omega)) ?_)
    exact VV.r rfl this
theorem c_turnAround (hg : (lkp tabG g).isSome = true) (hn : τ (100 * g + 2) = nI n) (h4 : n ≤ 4) (q : ∀ E, (∀ i j, i < n → j < n → E (4 * i + j) = B (g + 1) (4 * (n - 1 - i) + (n - 1 - j))) → Q none (HH S τ A (up B (g + 1) E))) : CC (d + 2) M_Grid_turnAround [.ref g] (HH S τ A B) Q := by
  have hnn : n * n ≤ 4 * 4 := Nat.mul_le_mul h4 h4
  refine CC.of rfl ?_
  repeat (first | refine VV.add rfl ?_ | refine VV.inc rfl rfl rfl ?_ | refine VV.mul rfl ?_ | refine VV.sub rfl (by omega) ?_ | refine VV.shl1 rfl (by omega) ?_ | refine VV.shl rfl ⟨by omega, by omega⟩ ?_ | refine VV.shr rfl ⟨by omega, by omega⟩ ?_ | refine VV.and rfl ?_ | refine VV.s rfl ?_ | refine VV.gn rfl (rdG hg).1 rfl hn ?_ | refine VV.g rfl (rdG hg).1 rfl ?_ | refine VV.b (b_ltT (by omega) (by omega)) ?_ | refine VV.b (b_ltF (by omega) (by omega)) ?_ | refine VV.b (b_geT (by omega) (by omega)) ?_ | refine VV.b (b_geF (by omega) (by omega)) ?_ | refine VV.b (b_gtT (by omega) (by omega)) ?_ | refine VV.b (b_gtF (by omega) (by omega)) ?_ | refine VV.b (b_leT (by omega) (by omega)) ?_ | refine VV.b (b_leF (by omega) (by omega)) ?_ | refine VV.b (b_eqT (by omega) (by omega)) ?_ | refine VV.b (b_eqF (by omega) (by omega)) ?_ | refine VV.b (b_neT (by omega) (by omega)) ?_ | refine VV.b (b_neF (by omega) (by omega)) ?_)
  refine VV.div (a := n * n) (b := 2) rfl ⟨by omega, by omega, by omega⟩ ?_
  have V := VV.inv (fun k E => tad (B (g + 1)) n (k * n) E) (fun k E => ∀ x3, VV (d + 2) M_Grid_turnAround 14 [some (.ref g), some (.int (nI (n * n / 2))), some (.int (nI k)), x3] [] (HH S τ A (up B (g + 1) E)) Q) n ?_ ?_ n 0 (B (g + 1)) (by omega) (fun i j _ _ => by rw [if_neg (by omega)]) none
  · rw [up_id] at V
    repeat (first | exact V | refine VV.add rfl ?_ | refine VV.inc rfl rfl rfl ?_ | refine VV.mul rfl ?_ | refine VV.sub rfl (by omega) ?_ | refine VV.shl1 rfl (by omega) ?_ | refine VV.shl rfl ⟨by omega, by omega⟩ ?_ | refine VV.shr rfl ⟨by omega, by omega⟩ ?_ | refine VV.and rfl ?_ | refine VV.s rfl ?_ | refine VV.gn rfl (rdG hg).1 rfl hn ?_ | refine VV.g rfl (rdG hg).1 rfl ?_ | refine VV.b (b_ltT (by omega) (by omega)) ?_ | refine VV.b (b_ltF (by omega) (by omega)) ?_ | refine VV.b (b_geT (by omega) (by omega)) ?_ | refine VV.b (b_geF (by omega) (by omega)) ?_ | refine VV.b (b_gtT (by omega) (by omega)) ?_ | refine VV.b (b_gtF (by omega) (by omega)) ?_ | refine VV.b (b_leT (by omega) (by omega)) ?_ | refine VV.b (b_leF (by omega) (by omega)) ?_ | refine VV.b (b_eqT (by omega) (by omega)) ?_ | refine VV.b (b_eqF (by omega) (by omega)) ?_ | refine VV.b (b_neT (by omega) (by omega)) ?_ | refine VV.b (b_neF (by omega) (by omega)) ?_)
  · intro k E hk hI nxt x2
    have hkn : k * n ≤ 4 * 4 := Nat.mul_le_mul (by omega) h4
    have W := VV.inv (fun l E => tad (B (g + 1)) n (k * n + l) E) (fun l E => VV (d + 2) M_Grid_turnAround 24 [some (.ref g), some (.int (nI (n * n / 2))), some (.int (nI k)), some (.int (nI l))] [] (HH S τ A (up B (g + 1) E)) Q) n ?_ ?_ n 0 E (by omega) hI
    · repeat (first | exact W | refine VV.add rfl ?_ | refine VV.inc rfl rfl rfl ?_ | refine VV.mul rfl ?_ | refine VV.sub rfl (by omega) ?_ | refine VV.shl1 rfl (by omega) ?_ | refine VV.shl rfl ⟨by omega, by omega⟩ ?_ | refine VV.shr rfl ⟨by omega, by omega⟩ ?_ | refine VV.and rfl ?_ | refine VV.s rfl ?_ | refine VV.gn rfl (rdG hg).1 rfl hn ?_ | refine VV.g rfl (rdG hg).1 rfl ?_ | refine VV.b (b_ltT (by omega) (by omega)) ?_ | refine VV.b (b_ltF (by omega) (by omega)) ?_ | refine VV.b (b_geT (by omega) (by omega)) ?_ | refine VV.b (b_geF (by omega) (by omega)) ?_ | refine VV.b (b_gtT (by omega) (by omega)) ?_ | refine VV.b (b_gtF (by omega) (by omega)) ?_ | refine VV.b (b_leT (by omega) (by omega)) ?_ | refine VV.b (b_leF (by omega) (by omega)) ?_ | refine VV.b (b_eqT (by omega) (by omega)) ?_ | refine VV.b (b_eqF (by omega) (by omega)) ?_ | refine VV.b (b_neT (by omega) (by omega)) ?_ | refine VV.b (b_neF (by omega) (by omega)) ?_)
    · intro l E hl hI nx2
      by_cases c : k * n + l < n * n / 2
      · have := nx2 _ (hI.step h4 hk hl c)
        repeat (first | refine VV.add rfl ?_ | refine VV.inc rfl rfl rfl ?_ | refine VV.mul rfl ?_ | refine VV.sub rfl (by omega) ?_ | refine VV.shl1 rfl (by omega) ?_ | refine VV.shl rfl ⟨by omega, by omega⟩ ?_ | refine VV.shr rfl ⟨by omega, by omega⟩ ?_ | refine VV.and rfl ?_ | refine VV.s rfl ?_ | refine VV.gn rfl (rdG hg).1 rfl hn ?_ | refine VV.g rfl (rdG hg).1 rfl ?_ | refine VV.b (b_ltT (by omega) (by omega)) ?_ | refine VV.b (b_ltF (by omega) (by omega)) ?_ | refine VV.b (b_geT (by omega) (by omega)) ?_ | refine VV.b (b_geF (by omega) (by omega)) ?_ | refine VV.b (b_gtT (by omega) (by omega)) ?_ | refine VV.b (b_gtF (by omega) (by omega)) ?_ | refine VV.b (b_leT (by omega) (by omega)) ?_ | refine VV.b (b_leF (by omega) (by omega)) ?_ | refine VV.b (b_eqT (by omega) (by omega)) ?_ | refine VV.b (b_eqF (by omega) (by omega)) ?_ | refine VV.b (b_neT (by omega) (by omega)) ?_ | refine VV.b (b_neF (by omega) (by omega)) ?_)
        (refine VV.cv rfl (rdG hg).1 ?_; refine c_swap hg hn h4 hk hl (show n - 1 - k < n by omega) (show n - 1 - l < n by omega) ?_)
        rw [up_up, up_s]
        repeat (first | exact this | refine VV.add rfl ?_ | refine VV.inc rfl rfl rfl ?_ | refine VV.mul rfl ?_ | refine VV.sub rfl (by omega) ?_ | refine VV.shl1 rfl (by omega) ?_ | refine VV.shl rfl ⟨by omega, by omega⟩ ?_ | refine VV.shr rfl ⟨by omega, by omega⟩ ?_ | refine VV.and rfl ?_ | refine VV.s rfl ?_ | refine VV.gn rfl (rdG hg).1 rfl hn ?_ | refine VV.g rfl (rdG hg).1 rfl ?_ | refine VV.b (b_ltT (by omega) (by omega)) ?_ | refine VV.b (b_ltF (by omega) (by omega)) ?_ | refine VV.b (b_geT (by omega) (by omega)) ?_ | refine VV.b (b_geF (by omega) (by omega)) ?_ | refine VV.b (b_gtT (by omega) (by omega)) ?_ | refine VV.b (b_gtF (by omega) (by omega)) ?_ | refine VV.b (b_leT (by omega) (by omega)) ?_ | refine VV.b (b_leF (by omega) (by omega)) ?_ | refine VV.b (b_eqT (by omega) (by omega)) ?_ | refine VV.b (b_eqF (by omega) (by omega)) ?_ | refine VV.b (b_neT (by omega) (by omega)) ?_ | refine VV.b (b_neF (by omega) (by omega)) ?_)
      · have := nx2 _ (hI.skip c)
        repeat (first | exact this | refine VV.add rfl ?_ | refine VV.inc rfl rfl rfl ?_ | refine VV.mul rfl ?_ | refine VV.sub rfl (by omega) ?_ | refine VV.shl1 rfl (by omega) ?_ | refine VV.shl rfl ⟨by omega, by omega⟩ ?_ | refine VV.shr rfl ⟨by omega, by omega⟩ ?_ | refine VV.and rfl ?_ | refine VV.s rfl ?_ | refine VV.gn rfl (rdG hg).1 rfl hn ?_ | refine VV.g rfl (rdG hg).1 rfl ?_ | refine VV.b (b_ltT (by omega) (by omega)) ?_ | refine VV.b (b_ltF (by omega) (by omega)) ?_ | refine VV.b (b_geT (by omega) (by omega)) ?_ | refine VV.b (b_geF (by omega) (by omega)) ?_ | refine VV.b (b_gtT (by omega) (by omega)) ?_ | refine VV.b (b_gtF (by omega) (by omega)) ?_ | refine VV.b (b_leT (by omega) (by omega)) ?_ | refine VV.b (b_leF (by omega) (by omega)) ?_ | refine VV.b (b_eqT (by omega) (by omega)) ?_ | refine VV.b (b_eqF (by omega) (by omega)) ?_ | refine VV.b (b_neT (by omega) (by omega)) ?_ | refine VV.b (b_neF (by omega) (by omega)) ?_)
    · intro E hI
      have := nxt E (by rw [Nat.succ_mul]; exact hI) (some (.int (nI n)))
      repeat (first | exact this | refine VV.add rfl ?_ | refine VV.inc rfl rfl rfl ?_ | refine VV.mul rfl ?_ | refine VV.sub rfl (by omega) ?_ | refine VV.shl1 rfl (by omega) ?_ | refine VV.shl rfl ⟨by omega, by omega⟩ ?_ | refine VV.shr rfl ⟨by omega, by omega⟩ ?_ | refine VV.and rfl ?_ | refine VV.s rfl ?_ | refine VV.gn rfl (rdG hg).1 rfl hn ?_ | refine VV.g rfl (rdG hg).1 rfl ?_ | refine VV.b (b_ltT (by omega) (by omega)) ?_ | refine VV.b (b_ltF (by omega) (by omega)) ?_ | refine VV.b (b_geT (by omega) (by omega)) ?_ | refine VV.b (b_geF (by omega) (by omega)) ?_ | refine VV.b (b_gtT (by omega) (by omega)) ?_ | refine VV.b (b_gtF (by omega) (by omega)) ?_ | refine VV.b (b_leT (by omega) (by omega)) ?_ | refine VV.b (b_leF (by omega) (by omega)) ?_ | refine VV.b (b_eqT (by omega) (by omega)) ?_ | refine VV.b (b_eqF (by omega) (by omega)) ?_ | refine VV.b (b_neT (by omega) (by omega)) ?_ | refine VV.b (b_neF (by omega) (by omega)) ?_)
  · intro E hI x2
    have := q E (fun i j hi hj => by
      rw [hI i j hi hj]
      rcases (show n = 1 ∨ n = 2 ∨ n = 3 ∨ n = 4 by omega) with rfl | rfl | rfl | rfl
      all_goals
        split
        · rfl
        · congr 1
          omega)
    repeat (first | refine VV.add rfl ?_ | refine VV.inc rfl rfl rfl ?_ | refine VV.mul rfl ?_ | refine VV.sub rfl (by omega) ?_ | refine VV.shl1 rfl (by omega) ?_ | refine VV.shl rfl ⟨by omega, by omega⟩ ?_ | refine VV.shr rfl ⟨by omega, by omega⟩ ?_ | refine VV.and rfl ?_ | refine VV.s rfl ?_ | refine VV.gn rfl (rdG hg).1 rfl hn ?_ | refine VV.g rfl (rdG hg).1 rfl ?_ | refine VV.b (b_ltT (by omega) (by omega)) ?_ | refine VV.b (b_ltF (by omega) (by omega)) ?_ | refine VV.b (b_geT (by omega) (by omega)) ?_ | refine VV.b (b_geF (by omega) (by omega)) ?_ | refine VV.b (b_gtT (by omega) (by omega)) ?_ | refine VV.b (b_gtF (by omega) (by omega)) ?_ | refine VV.b (b_leT (by omega) (by omega)) ?_ | refine VV.b (b_leF (by omega) (by omega)) ?_ | refine VV.b (b_eqT (by omega) (by omega)) ?_ | refine VV.b (b_eqF (by omega) (by omega)) ?_ | refine VV.b (b_neT (by omega) (by omega)) ?_ | refine VV.b (b_neF (by omega) (by omega)) ?_)
    exact VV.r rfl this
theorem c_swapRows (hg : (lkp tabG g).isSome = true) (hn : τ (100 * g + 2) = nI n) (h4 : n ≤ 4) {r : Nat} (hr : r < 1000) (q : ∀ E, (∀ i j, i < n → j < n → E (4 * i + j) = if r + 1 < n then B (g + 1) (4 * swr r i + j) else B (g + 1) (4 * i + j)) → Q none (HH S τ A (up B (g + 1) E))) (h1 : 1 ≤ n) : CC (d + 2) M_Grid_swapRows [.ref g, .int (nI r)] (HH S τ A B) Q := by
  refine CC.of rfl ?_
  by_cases hc : r + 1 < n
  · have V := VV.inv (fun k E => swI (B (g + 1)) n r k E) (fun k E => VV (d + 2) M_Grid_swapRows 17 [some (.ref g), some (.int (nI r)), some (.int (nI k))] [] (HH S τ A (up B (g + 1) E)) Q) n ?_ ?_ n 0 (B (g + 1)) (by omega) (fun i j _ _ => by rw [if_neg (by omega)])
    · rw [up_id] at V
      repeat (first | exact V | refine VV.add rfl ?_ | refine VV.inc rfl rfl rfl ?_ | refine VV.mul rfl ?_ | refine VV.sub rfl (by omega) ?_ | refine VV.shl1 rfl (by omega) ?_ | refine VV.shl rfl ⟨by omega, by omega⟩ ?_ | refine VV.shr rfl ⟨by omega, by omega⟩ ?_ | refine VV.and rfl ?_ | refine VV.s rfl ?_ | refine VV.gn rfl (rdG hg).1 rfl hn ?_ | refine VV.g rfl (rdG hg).1 rfl ?_ | refine VV.b (b_ltT (by omega) (by omega)) ?_ | refine VV.b (b_ltF (by omega) (by omega)) ?_ | refine VV.b (b_geT (by omega) (by omega)) ?_ | refine VV.b (b_geF (by omega) (by omega)) ?_ | refine VV.b (b_gtT (by omega) (by omega)) ?_ | refine VV.b (b_gtF (by omega) (by omega)) ?_ | refine VV.b (b_leT (by omega) (by omega)) ?_ | refine VV.b (b_leF (by omega) (by omega)) ?_ | refine VV.b (b_eqT (by omega) (by omega)) ?_ | refine VV.b (b_eqF (by omega) (by omega)) ?_ | refine VV.b (b_neT (by omega) (by omega)) ?_ | refine VV.b (b_neF (by omega) (by omega)) ?_)
    · intro k E hk hI nxt
      have := nxt _ (hI.step h4 hc hk)
      repeat (first | refine VV.add rfl ?_ | refine VV.inc rfl rfl rfl ?_ | refine VV.mul rfl ?_ | refine VV.sub rfl (by omega) ?_ | refine VV.shl1 rfl (by omega) ?_ | refine VV.shl rfl ⟨by omega, by omega⟩ ?_ | refine VV.shr rfl ⟨by omega, by omega⟩ ?_ | refine VV.and rfl ?_ | refine VV.s rfl ?_ | refine VV.gn rfl (rdG hg).1 rfl hn ?_ | refine VV.g rfl (rdG hg).1 rfl ?_ | refine VV.b (b_ltT (by omega) (by omega)) ?_ | refine VV.b (b_ltF (by omega) (by omega)) ?_ | refine VV.b (b_geT (by omega) (by omega)) ?_ | refine VV.b (b_geF (by omega) (by omega)) ?_ | refine VV.b (b_gtT (by omega) (by omega)) ?_ | refine VV.b (b_gtF (by omega) (by omega)) ?_ | refine VV.b (b_leT (by omega) (by omega)) ?_ | refine VV.b (b_leF (by omega) (by omega)) ?_ | refine VV.b (b_eqT (by omega) (by omega)) ?_ | refine VV.b (b_eqF (by omega) (by omega)) ?_ | refine VV.b (b_neT (by omega) (by omega)) ?_ | refine VV.b (b_neF (by omega) (by omega)) ?_)
      (refine VV.cv rfl (rdG hg).1 ?_; refine c_swap hg hn h4 (show r < n by omega) hk hc hk ?_)
      rw [up_up, up_s]
      repeat (first | exact this | refine VV.add rfl ?_ | refine VV.inc rfl rfl rfl ?_ | refine VV.mul rfl ?_ | refine VV.sub rfl (by omega) ?_ | refine VV.shl1 rfl (by omega) ?_ | refine VV.shl rfl ⟨by omega, by omega⟩ ?_ | refine VV.shr rfl ⟨by omega, by omega⟩ ?_ | refine VV.and rfl ?_ | refine VV.s rfl ?_ | refine VV.gn rfl (rdG hg).1 rfl hn ?_ | refine VV.g rfl (rdG hg).1 rfl ?_ | refine VV.b (b_ltT (by omega) (by omega)) ?_ | refine VV.b (b_ltF (by omega) (by omega)) ?_ | refine VV.b (b_geT (by omega) (by omega)) ?_ | refine VV.b (b_geF (by omega) (by omega)) ?_ | refine VV.b (b_gtT (by omega) (by omega)) ?_ | refine VV.b (b_gtF (by omega) (by omega)) ?_ | refine VV.b (b_leT (by omega) (by omega)) ?_ | refine VV.b (b_leF (by omega) (by omega)) ?_ | refine VV.b (b_eqT (by omega) (by omega)) ?_ | refine VV.b (b_eqF (by omega) (by omega)) ?_ | refine VV.b (b_neT (by omega) (by omega)) ?_ | refine VV.b (b_neF (by omega) (by omega)) ?_)
    · intro E hI
      have := q E (fun i j hi hj => by rw [hI i j hi hj, if_pos hj, if_pos hc])
      repeat (first | refine VV.add rfl ?_ | refine VV.inc rfl rfl rfl ?_ | refine VV.mul rfl ?_ | refine VV.sub rfl (by omega) ?_ | refine VV.shl1 rfl (by omega) ?_ | refine VV.shl rfl ⟨by omega, by omega⟩ ?_ | refine VV.shr rfl ⟨by omega, by omega⟩ ?_ | refine VV.and rfl ?_ | refine VV.s rfl ?_ | refine VV.gn rfl (rdG hg).1 rfl hn ?_ | refine VV.g rfl (rdG hg).1 rfl ?_ | refine VV.b (b_ltT (by omega) (by omega)) ?_ | refine VV.b (b_ltF (by omega) (by omega)) ?_ | refine VV.b (b_geT (by omega) (by omega)) ?_ | refine VV.b (b_geF (by omega) (by omega)) ?_ | refine VV.b (b_gtT (by omega) (by omega)) ?_ | refine VV.b (b_gtF (by omega) (by omega)) ?_ | refine VV.b (b_leT (by omega) (by omega)) ?_ | refine VV.b (b_leF (by omega) (by omega)) ?_ | refine VV.b (b_eqT (by omega) (by omega)) ?_ | refine VV.b (b_eqF (by omega) (by omega)) ?_ | refine VV.b (b_neT (by omega) (by omega)) ?_ | refine VV.b (b_neF (by omega) (by omega)) ?_)
      exact VV.r rfl this
  · have := q (B (g + 1)) (fun i j hi hj => by rw [if_neg hc])
    rw [up_id] at this
    repeat (first | refine VV.add rfl ?_ | refine VV.inc rfl rfl rfl ?_ | refine VV.mul rfl ?_ | refine VV.sub rfl (by omega) ?_ | refine VV.shl1 rfl (by omega) ?_ | refine VV.shl rfl ⟨by omega, by omega⟩ ?_ | refine VV.shr rfl ⟨by omega, by omega⟩ ?_ | refine VV.and rfl ?_ | refine VV.s rfl ?_ | refine VV.gn rfl (rdG hg).1 rfl hn ?_ | refine VV.g rfl (rdG hg).1 rfl ?_ | refine VV.b (b_ltT (by omega) (by omega)) ?_ | refine VV.b (b_ltF (by omega) (by omega)) ?_ | refine VV.b (b_geT (by omega) (by omega)) ?_ | refine VV.b (b_geF (by omega) (by omega)) ?_ | refine VV.b (b_gtT (by omega) (by omega)) ?_ | refine VV.b (b_gtF (by omega) (by omega)) ?_ | refine VV.b (b_leT (by omega) (by omega)) ?_ | refine VV.b (b_leF (by omega) (by omega)) ?_ | refine VV.b (b_eqT (by omega) (by omega)) ?_ | refine VV.b (b_eqF (by omega) (by omega)) ?_ | refine VV.b (b_neT (by omega) (by omega)) ?_ | refine VV.b (b_neF (by omega) (by omega)) ?_)
    exact VV.r rfl this
theorem c_addColumn (hg : (lkp tabG g).isSome = true) (hn : τ (100 * g + 2) = nI n) (h4 : n ≤ 4) {f t : Nat} {v : Int32} (hf : f < n) (ht : t < n) (q : ∀ E, (∀ i j, i < n → j < n → E (4 * i + j) = if j = t then B (g + 1) (4 * i + j) + v.toInt64 * B (g + 1) (4 * i + f) else B (g + 1) (4 * i + j)) → Q none (HH S τ A (up B (g + 1) E))) : CC (d + 1) M_Grid_addColumn [.ref g, .int (nI f), .int (nI t), .int v] (HH S τ A B) Q := by
  refine CC.of rfl ?_
  have V := VV.inv (fun k E => adI (B (g + 1)) n f t v.toInt64 k E) (fun k E => VV (d + 1) M_Grid_addColumn 3 [some (.ref g), some (.int (nI f)), some (.int (nI t)), some (.int v), some (.int (nI k))] [] (HH S τ A (up B (g + 1) E)) Q) n ?_ ?_ n 0 (B (g + 1)) (by omega) (fun i j _ _ => by rw [if_neg (by omega)])
  · rw [up_id] at V
    repeat (first | exact V | refine VV.add rfl ?_ | refine VV.inc rfl rfl rfl ?_ | refine VV.mul rfl ?_ | refine VV.sub rfl (by omega) ?_ | refine VV.shl1 rfl (by omega) ?_ | refine VV.shl rfl ⟨by omega, by omega⟩ ?_ | refine VV.shr rfl ⟨by omega, by omega⟩ ?_ | refine VV.and rfl ?_ | refine VV.s rfl ?_ | refine VV.gn rfl (rdG hg).1 rfl hn ?_ | refine VV.g rfl (rdG hg).1 rfl ?_ | refine VV.b (b_ltT (by omega) (by omega)) ?_ | refine VV.b (b_ltF (by omega) (by omega)) ?_ | refine VV.b (b_geT (by omega) (by omega)) ?_ | refine VV.b (b_geF (by omega) (by omega)) ?_ | refine VV.b (b_gtT (by omega) (by omega)) ?_ | refine VV.b (b_gtF (by omega) (by omega)) ?_ | refine VV.b (b_leT (by omega) (by omega)) ?_ | refine VV.b (b_leF (by omega) (by omega)) ?_ | refine VV.b (b_eqT (by omega) (by omega)) ?_ | refine VV.b (b_eqF (by omega) (by omega)) ?_ | refine VV.b (b_neT (by omega) (by omega)) ?_ | refine VV.b (b_neF (by omega) (by omega)) ?_)
  · intro k E hk hI nxt
    have := nxt _ (hI.step h4 hk hf ht)
    repeat (first | refine VV.add rfl ?_ | refine VV.inc rfl rfl rfl ?_ | refine VV.mul rfl ?_ | refine VV.sub rfl (by omega) ?_ | refine VV.shl1 rfl (by omega) ?_ | refine VV.shl rfl ⟨by omega, by omega⟩ ?_ | refine VV.shr rfl ⟨by omega, by omega⟩ ?_ | refine VV.and rfl ?_ | refine VV.s rfl ?_ | refine VV.gn rfl (rdG hg).1 rfl hn ?_ | refine VV.g rfl (rdG hg).1 rfl ?_ | refine VV.b (b_ltT (by omega) (by omega)) ?_ | refine VV.b (b_ltF (by omega) (by omega)) ?_ | refine VV.b (b_geT (by omega) (by omega)) ?_ | refine VV.b (b_geF (by omega) (by omega)) ?_ | refine VV.b (b_gtT (by omega) (by omega)) ?_ | refine VV.b (b_gtF (by omega) (by omega)) ?_ | refine VV.b (b_leT (by omega) (by omega)) ?_ | refine VV.b (b_leF (by omega) (by omega)) ?_ | refine VV.b (b_eqT (by omega) (by omega)) ?_ | refine VV.b (b_eqF (by omega) (by omega)) ?_ | refine VV.b (b_neT (by omega) (by omega)) ?_ | refine VV.b (b_neF (by omega) (by omega)) ?_)
    (refine VV.cv rfl (rdG hg).1 ?_; refine c_at hg hn h4 hk ht ?_)
    repeat refine VV.s rfl ?_
    (refine VV.cv rfl (rdG hg).1 ?_; refine c_at hg hn h4 hk hf ?_)
    rw [up_s]
    repeat refine VV.s rfl ?_
    (refine VV.cv rfl (rdG hg).1 ?_; refine c_put hg hn h4 hk ht ?_)
    rw [up_up, up_s]
    repeat (first | exact this | refine VV.add rfl ?_ | refine VV.inc rfl rfl rfl ?_ | refine VV.mul rfl ?_ | refine VV.sub rfl (by omega) ?_ | refine VV.shl1 rfl (by omega) ?_ | refine VV.shl rfl ⟨by omega, by omega⟩ ?_ | refine VV.shr rfl ⟨by omega, by omega⟩ ?_ | refine VV.and rfl ?_ | refine VV.s rfl ?_ | refine VV.gn rfl (rdG hg).1 rfl hn ?_ | refine VV.g rfl (rdG hg).1 rfl ?_ | refine VV.b (b_ltT (by omega) (by omega)) ?_ | refine VV.b (b_ltF (by omega) (by omega)) ?_ | refine VV.b (b_geT (by omega) (by omega)) ?_ | refine VV.b (b_geF (by omega) (by omega)) ?_ | refine VV.b (b_gtT (by omega) (by omega)) ?_ | refine VV.b (b_gtF (by omega) (by omega)) ?_ | refine VV.b (b_leT (by omega) (by omega)) ?_ | refine VV.b (b_leF (by omega) (by omega)) ?_ | refine VV.b (b_eqT (by omega) (by omega)) ?_ | refine VV.b (b_eqF (by omega) (by omega)) ?_ | refine VV.b (b_neT (by omega) (by omega)) ?_ | refine VV.b (b_neF (by omega) (by omega)) ?_)
  · intro E hI
    have := q E (fun i j hi hj => by rw [hI i j hi hj]; simp only [hi, true_and])
    repeat (first | refine VV.add rfl ?_ | refine VV.inc rfl rfl rfl ?_ | refine VV.mul rfl ?_ | refine VV.sub rfl (by omega) ?_ | refine VV.shl1 rfl (by omega) ?_ | refine VV.shl rfl ⟨by omega, by omega⟩ ?_ | refine VV.shr rfl ⟨by omega, by omega⟩ ?_ | refine VV.and rfl ?_ | refine VV.s rfl ?_ | refine VV.gn rfl (rdG hg).1 rfl hn ?_ | refine VV.g rfl (rdG hg).1 rfl ?_ | refine VV.b (b_ltT (by omega) (by omega)) ?_ | refine VV.b (b_ltF (by omega) (by omega)) ?_ | refine VV.b (b_geT (by omega) (by omega)) ?_ | refine VV.b (b_geF (by omega) (by omega)) ?_ | refine VV.b (b_gtT (by omega) (by omega)) ?_ | refine VV.b (b_gtF (by omega) (by omega)) ?_ | refine VV.b (b_leT (by omega) (by omega)) ?_ | refine VV.b (b_leF (by omega) (by omega)) ?_ | refine VV.b (b_eqT (by omega) (by omega)) ?_ | refine VV.b (b_eqF (by omega) (by omega)) ?_ | refine VV.b (b_neT (by omega) (by omega)) ?_ | refine VV.b (b_neF (by omega) (by omega)) ?_)
    exact VV.r rfl this
theorem c_together (hg : (lkp tabG g).isSome = true) (hn : τ (100 * g + 2) = nI n) (h4 : n ≤ 4) (q : Q (some (.long (sJ (fun i => sJ (fun j => B (g + 1) (4 * i + j)) n) n))) (HH S τ A B)) : CC (d + 1) M_Grid_together [.ref g] (HH S τ A B) Q := by
  refine CC.of rfl ?_
  have V := VV.inv (fun k (s : Int64) => s = sJ (fun i => sJ (fun j => B (g + 1) (4 * i + j)) n) k) (fun k s => ∀ x4, VV (d + 1) M_Grid_together 4 [some (.ref g), some (.long s), none, some (.int (nI k)), x4] [] (HH S τ A B) Q) n ?_ ?_ n 0 0 (by omega) rfl none
  · repeat (first | exact V | refine VV.add rfl ?_ | refine VV.inc rfl rfl rfl ?_ | refine VV.mul rfl ?_ | refine VV.sub rfl (by omega) ?_ | refine VV.shl1 rfl (by omega) ?_ | refine VV.shl rfl ⟨by omega, by omega⟩ ?_ | refine VV.shr rfl ⟨by omega, by omega⟩ ?_ | refine VV.and rfl ?_ | refine VV.s rfl ?_ | refine VV.gn rfl (rdG hg).1 rfl hn ?_ | refine VV.g rfl (rdG hg).1 rfl ?_ | refine VV.b (b_ltT (by omega) (by omega)) ?_ | refine VV.b (b_ltF (by omega) (by omega)) ?_ | refine VV.b (b_geT (by omega) (by omega)) ?_ | refine VV.b (b_geF (by omega) (by omega)) ?_ | refine VV.b (b_gtT (by omega) (by omega)) ?_ | refine VV.b (b_gtF (by omega) (by omega)) ?_ | refine VV.b (b_leT (by omega) (by omega)) ?_ | refine VV.b (b_leF (by omega) (by omega)) ?_ | refine VV.b (b_eqT (by omega) (by omega)) ?_ | refine VV.b (b_eqF (by omega) (by omega)) ?_ | refine VV.b (b_neT (by omega) (by omega)) ?_ | refine VV.b (b_neF (by omega) (by omega)) ?_)
  · intro k s hk hI nxt x4
    have W := VV.inv (fun l (t : Int64) => t = s + sJ (fun j => B (g + 1) (4 * k + j)) l) (fun l t => VV (d + 1) M_Grid_together 15 [some (.ref g), some (.long t), none, some (.int (nI k)), some (.int (nI l))] [] (HH S τ A B) Q) n ?_ ?_ n 0 s (by omega) (by rw [sJ, Int64.add_zero])
    · repeat (first | exact W | refine VV.add rfl ?_ | refine VV.inc rfl rfl rfl ?_ | refine VV.mul rfl ?_ | refine VV.sub rfl (by omega) ?_ | refine VV.shl1 rfl (by omega) ?_ | refine VV.shl rfl ⟨by omega, by omega⟩ ?_ | refine VV.shr rfl ⟨by omega, by omega⟩ ?_ | refine VV.and rfl ?_ | refine VV.s rfl ?_ | refine VV.gn rfl (rdG hg).1 rfl hn ?_ | refine VV.g rfl (rdG hg).1 rfl ?_ | refine VV.b (b_ltT (by omega) (by omega)) ?_ | refine VV.b (b_ltF (by omega) (by omega)) ?_ | refine VV.b (b_geT (by omega) (by omega)) ?_ | refine VV.b (b_geF (by omega) (by omega)) ?_ | refine VV.b (b_gtT (by omega) (by omega)) ?_ | refine VV.b (b_gtF (by omega) (by omega)) ?_ | refine VV.b (b_leT (by omega) (by omega)) ?_ | refine VV.b (b_leF (by omega) (by omega)) ?_ | refine VV.b (b_eqT (by omega) (by omega)) ?_ | refine VV.b (b_eqF (by omega) (by omega)) ?_ | refine VV.b (b_neT (by omega) (by omega)) ?_ | refine VV.b (b_neF (by omega) (by omega)) ?_)
    · intro l t hl hI nx2
      have := nx2 (t + B (g + 1) (4 * k + l)) (by rw [hI, sJ, Int64.add_assoc])
      repeat (first | refine VV.add rfl ?_ | refine VV.inc rfl rfl rfl ?_ | refine VV.mul rfl ?_ | refine VV.sub rfl (by omega) ?_ | refine VV.shl1 rfl (by omega) ?_ | refine VV.shl rfl ⟨by omega, by omega⟩ ?_ | refine VV.shr rfl ⟨by omega, by omega⟩ ?_ | refine VV.and rfl ?_ | refine VV.s rfl ?_ | refine VV.gn rfl (rdG hg).1 rfl hn ?_ | refine VV.g rfl (rdG hg).1 rfl ?_ | refine VV.b (b_ltT (by omega) (by omega)) ?_ | refine VV.b (b_ltF (by omega) (by omega)) ?_ | refine VV.b (b_geT (by omega) (by omega)) ?_ | refine VV.b (b_geF (by omega) (by omega)) ?_ | refine VV.b (b_gtT (by omega) (by omega)) ?_ | refine VV.b (b_gtF (by omega) (by omega)) ?_ | refine VV.b (b_leT (by omega) (by omega)) ?_ | refine VV.b (b_leF (by omega) (by omega)) ?_ | refine VV.b (b_eqT (by omega) (by omega)) ?_ | refine VV.b (b_eqF (by omega) (by omega)) ?_ | refine VV.b (b_neT (by omega) (by omega)) ?_ | refine VV.b (b_neF (by omega) (by omega)) ?_)
      (refine VV.cv rfl (rdG hg).1 ?_; refine c_at hg hn h4 hk hl ?_)
      repeat (first | exact this | refine VV.add rfl ?_ | refine VV.inc rfl rfl rfl ?_ | refine VV.mul rfl ?_ | refine VV.sub rfl (by omega) ?_ | refine VV.shl1 rfl (by omega) ?_ | refine VV.shl rfl ⟨by omega, by omega⟩ ?_ | refine VV.shr rfl ⟨by omega, by omega⟩ ?_ | refine VV.and rfl ?_ | refine VV.s rfl ?_ | refine VV.gn rfl (rdG hg).1 rfl hn ?_ | refine VV.g rfl (rdG hg).1 rfl ?_ | refine VV.b (b_ltT (by omega) (by omega)) ?_ | refine VV.b (b_ltF (by omega) (by omega)) ?_ | refine VV.b (b_geT (by omega) (by omega)) ?_ | refine VV.b (b_geF (by omega) (by omega)) ?_ | refine VV.b (b_gtT (by omega) (by omega)) ?_ | refine VV.b (b_gtF (by omega) (by omega)) ?_ | refine VV.b (b_leT (by omega) (by omega)) ?_ | refine VV.b (b_leF (by omega) (by omega)) ?_ | refine VV.b (b_eqT (by omega) (by omega)) ?_ | refine VV.b (b_eqF (by omega) (by omega)) ?_ | refine VV.b (b_neT (by omega) (by omega)) ?_ | refine VV.b (b_neF (by omega) (by omega)) ?_)
    · intro t hI2
      have := nxt t (by rw [hI2, hI, sJ]) (some (.int (nI n)))
      repeat (first | exact this | refine VV.add rfl ?_ | refine VV.inc rfl rfl rfl ?_ | refine VV.mul rfl ?_ | refine VV.sub rfl (by omega) ?_ | refine VV.shl1 rfl (by omega) ?_ | refine VV.shl rfl ⟨by omega, by omega⟩ ?_ | refine VV.shr rfl ⟨by omega, by omega⟩ ?_ | refine VV.and rfl ?_ | refine VV.s rfl ?_ | refine VV.gn rfl (rdG hg).1 rfl hn ?_ | refine VV.g rfl (rdG hg).1 rfl ?_ | refine VV.b (b_ltT (by omega) (by omega)) ?_ | refine VV.b (b_ltF (by omega) (by omega)) ?_ | refine VV.b (b_geT (by omega) (by omega)) ?_ | refine VV.b (b_geF (by omega) (by omega)) ?_ | refine VV.b (b_gtT (by omega) (by omega)) ?_ | refine VV.b (b_gtF (by omega) (by omega)) ?_ | refine VV.b (b_leT (by omega) (by omega)) ?_ | refine VV.b (b_leF (by omega) (by omega)) ?_ | refine VV.b (b_eqT (by omega) (by omega)) ?_ | refine VV.b (b_eqF (by omega) (by omega)) ?_ | refine VV.b (b_neT (by omega) (by omega)) ?_ | refine VV.b (b_neF (by omega) (by omega)) ?_)
  · intro s hI x4
    subst hI
    repeat (first | refine VV.add rfl ?_ | refine VV.inc rfl rfl rfl ?_ | refine VV.mul rfl ?_ | refine VV.sub rfl (by omega) ?_ | refine VV.shl1 rfl (by omega) ?_ | refine VV.shl rfl ⟨by omega, by omega⟩ ?_ | refine VV.shr rfl ⟨by omega, by omega⟩ ?_ | refine VV.and rfl ?_ | refine VV.s rfl ?_ | refine VV.gn rfl (rdG hg).1 rfl hn ?_ | refine VV.g rfl (rdG hg).1 rfl ?_ | refine VV.b (b_ltT (by omega) (by omega)) ?_ | refine VV.b (b_ltF (by omega) (by omega)) ?_ | refine VV.b (b_geT (by omega) (by omega)) ?_ | refine VV.b (b_geF (by omega) (by omega)) ?_ | refine VV.b (b_gtT (by omega) (by omega)) ?_ | refine VV.b (b_gtF (by omega) (by omega)) ?_ | refine VV.b (b_leT (by omega) (by omega)) ?_ | refine VV.b (b_leF (by omega) (by omega)) ?_ | refine VV.b (b_eqT (by omega) (by omega)) ?_ | refine VV.b (b_eqF (by omega) (by omega)) ?_ | refine VV.b (b_neT (by omega) (by omega)) ?_ | refine VV.b (b_neF (by omega) (by omega)) ?_)
    exact VV.r rfl q
def mxI (E : Nat → Int64) (n k l : Nat) (m : Int64) : Prop := (∀ i j, i < n → j < n → (i < k ∨ (i = k ∧ j < l)) → E (4 * i + j) ≤ m) ∧ ∃ i j, i < n ∧ j < n ∧ m = E (4 * i + j)
theorem mxI.step {E : Nat → Int64} {n k l : Nat} {m : Int64} (h : mxI E n k l m) (hk : k < n) (hl : l < n) : mxI E n k (l + 1) (if E (4 * k + l) < m then m else E (4 * k + l)) := by
  have h1 : m ≤ (if E (4 * k + l) < m then m else E (4 * k + l)) := by
    split
    · exact Int64.le_refl _
    · rename_i z; exact Int64.not_lt.mp z
  have h2 : E (4 * k + l) ≤ (if E (4 * k + l) < m then m else E (4 * k + l)) := by
    split
    · rename_i z; exact Int64.le_of_lt z
    · exact Int64.le_refl _
  refine ⟨fun i j hi hj hd => ?_, ?_⟩
  · by_cases e : i = k ∧ j = l
    · rw [e.1, e.2]; exact h2
    · exact Int64.le_trans (h.1 i j hi hj (by omega)) h1
  · split
    · exact h.2
    · exact ⟨k, l, hk, hl, rfl⟩
theorem c_greatest (hg : (lkp tabG g).isSome = true) (hn : τ (100 * g + 2) = nI n) (h4 : n ≤ 4) (h1 : 1 ≤ n) (q : ∀ m, (∀ i j, i < n → j < n → B (g + 1) (4 * i + j) ≤ m) → (∃ i j, i < n ∧ j < n ∧ m = B (g + 1) (4 * i + j)) → Q (some (.long m)) (HH S τ A B)) : CC (d + 1) M_Grid_greatest [.ref g] (HH S τ A B) Q := by
  refine CC.of rfl ?_
  have V := VV.inv (fun k (s : Int64) => mxI (B (g + 1)) n k 0 s) (fun k s => ∀ x4, VV (d + 1) M_Grid_greatest 9 [some (.ref g), some (.long s), none, some (.int (nI k)), x4] [] (HH S τ A B) Q) n ?_ ?_ n 0 (B (g + 1) 0) (by omega) ⟨by intro i j _ _ _; omega, 0, 0, by omega, by omega, rfl⟩ none
  · repeat refine VV.s rfl ?_
    (refine VV.cv rfl (rdG hg).1 ?_; refine c_at hg hn h4 (show 0 < n by omega) (show 0 < n by omega) ?_)
    repeat (first | exact V | refine VV.add rfl ?_ | refine VV.inc rfl rfl rfl ?_ | refine VV.mul rfl ?_ | refine VV.sub rfl (by omega) ?_ | refine VV.shl1 rfl (by omega) ?_ | refine VV.shl rfl ⟨by omega, by omega⟩ ?_ | refine VV.shr rfl ⟨by omega, by omega⟩ ?_ | refine VV.and rfl ?_ | refine VV.s rfl ?_ | refine VV.gn rfl (rdG hg).1 rfl hn ?_ | refine VV.g rfl (rdG hg).1 rfl ?_ | refine VV.b (b_ltT (by omega) (by omega)) ?_ | refine VV.b (b_ltF (by omega) (by omega)) ?_ | refine VV.b (b_geT (by omega) (by omega)) ?_ | refine VV.b (b_geF (by omega) (by omega)) ?_ | refine VV.b (b_gtT (by omega) (by omega)) ?_ | refine VV.b (b_gtF (by omega) (by omega)) ?_ | refine VV.b (b_leT (by omega) (by omega)) ?_ | refine VV.b (b_leF (by omega) (by omega)) ?_ | refine VV.b (b_eqT (by omega) (by omega)) ?_ | refine VV.b (b_eqF (by omega) (by omega)) ?_ | refine VV.b (b_neT (by omega) (by omega)) ?_ | refine VV.b (b_neF (by omega) (by omega)) ?_)
  · intro k s hk hI nxt x4
    have W := VV.inv (fun l (t : Int64) => mxI (B (g + 1)) n k l t) (fun l t => VV (d + 1) M_Grid_greatest 20 [some (.ref g), some (.long t), none, some (.int (nI k)), some (.int (nI l))] [] (HH S τ A B) Q) n ?_ ?_ n 0 s (by omega) hI
    · repeat (first | exact W | refine VV.add rfl ?_ | refine VV.inc rfl rfl rfl ?_ | refine VV.mul rfl ?_ | refine VV.sub rfl (by omega) ?_ | refine VV.shl1 rfl (by omega) ?_ | refine VV.shl rfl ⟨by omega, by omega⟩ ?_ | refine VV.shr rfl ⟨by omega, by omega⟩ ?_ | refine VV.and rfl ?_ | refine VV.s rfl ?_ | refine VV.gn rfl (rdG hg).1 rfl hn ?_ | refine VV.g rfl (rdG hg).1 rfl ?_ | refine VV.b (b_ltT (by omega) (by omega)) ?_ | refine VV.b (b_ltF (by omega) (by omega)) ?_ | refine VV.b (b_geT (by omega) (by omega)) ?_ | refine VV.b (b_geF (by omega) (by omega)) ?_ | refine VV.b (b_gtT (by omega) (by omega)) ?_ | refine VV.b (b_gtF (by omega) (by omega)) ?_ | refine VV.b (b_leT (by omega) (by omega)) ?_ | refine VV.b (b_leF (by omega) (by omega)) ?_ | refine VV.b (b_eqT (by omega) (by omega)) ?_ | refine VV.b (b_eqF (by omega) (by omega)) ?_ | refine VV.b (b_neT (by omega) (by omega)) ?_ | refine VV.b (b_neF (by omega) (by omega)) ?_)
    · intro l t hl hI nx2
      have := nx2 _ (hI.step hk hl)
      repeat (first | refine VV.add rfl ?_ | refine VV.inc rfl rfl rfl ?_ | refine VV.mul rfl ?_ | refine VV.sub rfl (by omega) ?_ | refine VV.shl1 rfl (by omega) ?_ | refine VV.shl rfl ⟨by omega, by omega⟩ ?_ | refine VV.shr rfl ⟨by omega, by omega⟩ ?_ | refine VV.and rfl ?_ | refine VV.s rfl ?_ | refine VV.gn rfl (rdG hg).1 rfl hn ?_ | refine VV.g rfl (rdG hg).1 rfl ?_ | refine VV.b (b_ltT (by omega) (by omega)) ?_ | refine VV.b (b_ltF (by omega) (by omega)) ?_ | refine VV.b (b_geT (by omega) (by omega)) ?_ | refine VV.b (b_geF (by omega) (by omega)) ?_ | refine VV.b (b_gtT (by omega) (by omega)) ?_ | refine VV.b (b_gtF (by omega) (by omega)) ?_ | refine VV.b (b_leT (by omega) (by omega)) ?_ | refine VV.b (b_leF (by omega) (by omega)) ?_ | refine VV.b (b_eqT (by omega) (by omega)) ?_ | refine VV.b (b_eqF (by omega) (by omega)) ?_ | refine VV.b (b_neT (by omega) (by omega)) ?_ | refine VV.b (b_neF (by omega) (by omega)) ?_)
      (refine VV.cv rfl (rdG hg).1 ?_; refine c_at hg hn h4 hk hl ?_)
      repeat (first | exact this | refine VV.add rfl ?_ | refine VV.inc rfl rfl rfl ?_ | refine VV.mul rfl ?_ | refine VV.sub rfl (by omega) ?_ | refine VV.shl1 rfl (by omega) ?_ | refine VV.shl rfl ⟨by omega, by omega⟩ ?_ | refine VV.shr rfl ⟨by omega, by omega⟩ ?_ | refine VV.and rfl ?_ | refine VV.s rfl ?_ | refine VV.gn rfl (rdG hg).1 rfl hn ?_ | refine VV.g rfl (rdG hg).1 rfl ?_ | refine VV.b (b_ltT (by omega) (by omega)) ?_ | refine VV.b (b_ltF (by omega) (by omega)) ?_ | refine VV.b (b_geT (by omega) (by omega)) ?_ | refine VV.b (b_geF (by omega) (by omega)) ?_ | refine VV.b (b_gtT (by omega) (by omega)) ?_ | refine VV.b (b_gtF (by omega) (by omega)) ?_ | refine VV.b (b_leT (by omega) (by omega)) ?_ | refine VV.b (b_leF (by omega) (by omega)) ?_ | refine VV.b (b_eqT (by omega) (by omega)) ?_ | refine VV.b (b_eqF (by omega) (by omega)) ?_ | refine VV.b (b_neT (by omega) (by omega)) ?_ | refine VV.b (b_neF (by omega) (by omega)) ?_)
    · intro t hI2
      have := nxt t ⟨fun i j hi hj hd => hI2.1 i j hi hj (by omega), hI2.2⟩ (some (.int (nI n)))
      repeat (first | exact this | refine VV.add rfl ?_ | refine VV.inc rfl rfl rfl ?_ | refine VV.mul rfl ?_ | refine VV.sub rfl (by omega) ?_ | refine VV.shl1 rfl (by omega) ?_ | refine VV.shl rfl ⟨by omega, by omega⟩ ?_ | refine VV.shr rfl ⟨by omega, by omega⟩ ?_ | refine VV.and rfl ?_ | refine VV.s rfl ?_ | refine VV.gn rfl (rdG hg).1 rfl hn ?_ | refine VV.g rfl (rdG hg).1 rfl ?_ | refine VV.b (b_ltT (by omega) (by omega)) ?_ | refine VV.b (b_ltF (by omega) (by omega)) ?_ | refine VV.b (b_geT (by omega) (by omega)) ?_ | refine VV.b (b_geF (by omega) (by omega)) ?_ | refine VV.b (b_gtT (by omega) (by omega)) ?_ | refine VV.b (b_gtF (by omega) (by omega)) ?_ | refine VV.b (b_leT (by omega) (by omega)) ?_ | refine VV.b (b_leF (by omega) (by omega)) ?_ | refine VV.b (b_eqT (by omega) (by omega)) ?_ | refine VV.b (b_eqF (by omega) (by omega)) ?_ | refine VV.b (b_neT (by omega) (by omega)) ?_ | refine VV.b (b_neF (by omega) (by omega)) ?_)
  · intro s hI x4
    have := q s (fun i j hi hj => hI.1 i j hi hj (Or.inl hi)) hI.2
    repeat (first | refine VV.add rfl ?_ | refine VV.inc rfl rfl rfl ?_ | refine VV.mul rfl ?_ | refine VV.sub rfl (by omega) ?_ | refine VV.shl1 rfl (by omega) ?_ | refine VV.shl rfl ⟨by omega, by omega⟩ ?_ | refine VV.shr rfl ⟨by omega, by omega⟩ ?_ | refine VV.and rfl ?_ | refine VV.s rfl ?_ | refine VV.gn rfl (rdG hg).1 rfl hn ?_ | refine VV.g rfl (rdG hg).1 rfl ?_ | refine VV.b (b_ltT (by omega) (by omega)) ?_ | refine VV.b (b_ltF (by omega) (by omega)) ?_ | refine VV.b (b_geT (by omega) (by omega)) ?_ | refine VV.b (b_geF (by omega) (by omega)) ?_ | refine VV.b (b_gtT (by omega) (by omega)) ?_ | refine VV.b (b_gtF (by omega) (by omega)) ?_ | refine VV.b (b_leT (by omega) (by omega)) ?_ | refine VV.b (b_leF (by omega) (by omega)) ?_ | refine VV.b (b_eqT (by omega) (by omega)) ?_ | refine VV.b (b_eqF (by omega) (by omega)) ?_ | refine VV.b (b_neT (by omega) (by omega)) ?_ | refine VV.b (b_neF (by omega) (by omega)) ?_)
    exact VV.r rfl this
end GL6
