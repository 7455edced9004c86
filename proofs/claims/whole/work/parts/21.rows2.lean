/-! rows of the judgement over that heap, branches over numbers -/
theorem VV.e {d u pc u' nx : Nat} {L L' : Lc} {st args rest : List Value} {h : Hp} {Q : Option Value → Hp → Prop} (e : cll u pc st h = some (u', nx, args, rest)) (e2 : entL u' args = some L') (g : VV d u' 0 L' [] h (fun v h' => VV (d + 1) u nx L (pushV v rest) h' Q)) : VV (d + 1) u pc L st h Q := VV.c e (CC.of e2 g)
theorem VV.t {d u a b : Nat} {L : Lc} {st : List Value} {h : Hp} {Q : Option Value → Hp → Prop} {c : Prop} [Decidable c] (hc : c) (t : VV d u a L st h Q) : VV d u (if c then a else b) L st h Q := by rw [if_pos hc]; exact t
theorem VV.f {d u a b : Nat} {L : Lc} {st : List Value} {h : Hp} {Q : Option Value → Hp → Prop} {c : Prop} [Decidable c] (hc : ¬ c) (t : VV d u b L st h Q) : VV d u (if c then a else b) L st h Q := by rw [if_neg hc]; exact t
/-- branches on numbers that are small naturals -/
theorem VV.lt {d u p q : Nat} {L : Lc} {st : List Value} {h : Hp} {Q : Option Value → Hp → Prop} {a b : Nat} (ha : a < 2147483648) (hb : b < 2147483648) (t : a < b → VV d u p L st h Q) (f : b ≤ a → VV d u q L st h Q) : VV d u (if nI a < nI b then p else q) L st h Q :=
  VV.i (fun c => t ((nI_ltI ha hb).mp c)) (fun c => f (Nat.le_of_not_lt (fun z => c ((nI_ltI ha hb).mpr z))))
theorem VV.eq {d u p q : Nat} {L : Lc} {st : List Value} {h : Hp} {Q : Option Value → Hp → Prop} {a b : Nat} (ha : a < 2147483648) (hb : b < 2147483648) (t : a = b → VV d u p L st h Q) (f : a ≠ b → VV d u q L st h Q) : VV d u (if nI a = nI b then p else q) L st h Q :=
  VV.i (fun c => t ((nI_eq ha hb).mp c)) (fun c => f (fun z => c ((nI_eq ha hb).mpr z)))
theorem VV.lt0 {d u p q : Nat} {L : Lc} {st : List Value} {h : Hp} {Q : Option Value → Hp → Prop} {a : Nat} (ha : a < 2147483648) (f : VV d u q L st h Q) : VV d u (if nI a < 0 then p else q) L st h Q := VV.f (nI_pos ha) f
theorem VV.eq0 {d u p q : Nat} {L : Lc} {st : List Value} {h : Hp} {Q : Option Value → Hp → Prop} {a : Nat} (ha : a < 2147483648) (t : a = 0 → VV d u p L st h Q) (f : a ≠ 0 → VV d u q L st h Q) : VV d u (if nI a = 0 then p else q) L st h Q :=
  VV.i (fun c => t ((nI_eq ha (by decide)).mp c)) (fun c => f (fun z => c ((nI_eq ha (by decide)).mpr z)))
theorem VV.gt0 {d u p q : Nat} {L : Lc} {st : List Value} {h : Hp} {Q : Option Value → Hp → Prop} {a : Nat} (ha : a < 2147483648) (t : 0 < a → VV d u p L st h Q) (f : a = 0 → VV d u q L st h Q) : VV d u (if 0 < nI a then p else q) L st h Q :=
  VV.i (fun c => t ((nI_ltI (a := 0) (by decide) ha).mp c)) (fun c => f (Nat.eq_zero_of_not_pos (fun z => c ((nI_ltI (a := 0) (by decide) ha).mpr z))))
theorem lcm_lt {x y : Int64} : lcm x y < 0 ↔ x < y := by
  unfold lcm lg_cmp
  by_cases h : x > y
  · rw [if_pos h]; exact ⟨fun z => absurd z (by decide), fun z => absurd (Int64.lt_trans h z) (Int64.lt_irrefl)⟩
  · rw [if_neg h]
    by_cases h2 : x = y
    · rw [if_pos h2]; subst h2; exact ⟨fun z => absurd z (by decide), fun z => absurd z (Int64.lt_irrefl)⟩
    · rw [if_neg h2]; exact ⟨fun _ => Int64.lt_of_le_of_ne (Int64.not_lt.mp h) h2, fun _ => by decide⟩
theorem lcm_gt {x y : Int64} : 0 < lcm x y ↔ y < x := by
  unfold lcm lg_cmp
  by_cases h : x > y
  · rw [if_pos h]; exact ⟨fun _ => h, fun _ => by decide⟩
  · rw [if_neg h]
    by_cases h2 : x = y
    · rw [if_pos h2]; subst h2; exact ⟨fun z => absurd z (by decide), fun z => absurd z (Int64.lt_irrefl)⟩
    · rw [if_neg h2]; exact ⟨fun z => absurd z (by decide), fun z => absurd z h⟩
theorem lcm_eq {x y : Int64} : lcm x y = 0 ↔ x = y := by
  unfold lcm lg_cmp
  by_cases h : x > y
  · rw [if_pos h]; exact ⟨fun z => absurd z (by decide), fun z => by subst z; exact absurd h (Int64.lt_irrefl)⟩
  · rw [if_neg h]
    by_cases h2 : x = y
    · rw [if_pos h2]; exact ⟨fun _ => h2, fun _ => rfl⟩
    · rw [if_neg h2]; exact ⟨fun z => absurd z (by decide), fun z => absurd z h2⟩
theorem VV.llt {d u p q : Nat} {L : Lc} {st : List Value} {h : Hp} {Q : Option Value → Hp → Prop} {x y : Int64} (t : x < y → VV d u p L st h Q) (f : ¬ x < y → VV d u q L st h Q) : VV d u (if lcm x y < 0 then p else q) L st h Q := VV.i (fun c => t (lcm_lt.mp c)) (fun c => f (fun z => c (lcm_lt.mpr z)))
theorem VV.lgt {d u p q : Nat} {L : Lc} {st : List Value} {h : Hp} {Q : Option Value → Hp → Prop} {x y : Int64} (t : y < x → VV d u p L st h Q) (f : ¬ y < x → VV d u q L st h Q) : VV d u (if 0 < lcm x y then p else q) L st h Q := VV.i (fun c => t (lcm_gt.mp c)) (fun c => f (fun z => c (lcm_gt.mpr z)))
theorem VV.leq {d u p q : Nat} {L : Lc} {st : List Value} {h : Hp} {Q : Option Value → Hp → Prop} {x y : Int64} (t : x = y → VV d u p L st h Q) (f : ¬ x = y → VV d u q L st h Q) : VV d u (if lcm x y = 0 then p else q) L st h Q := VV.i (fun c => t (lcm_eq.mp c)) (fun c => f (fun z => c (lcm_eq.mpr z)))
theorem lkp_le {a n : Nat} : ∀ {l : List (Nat × Nat)}, (∀ q ∈ l, q.2 ≤ 400) → lkp l a = some n → n ≤ 400
  | [], _, h => by cases h
  | (k, v) :: l, hl, h => by
    unfold lkp at h
    cases hb : Nat.beq k a with
    | true => rw [hb] at h; simp only [cond_true, Option.some.injEq] at h; rw [← h]; exact hl (k, v) List.mem_cons_self
    | false => rw [hb] at h; exact lkp_le (fun q hq => hl q (List.mem_cons_of_mem _ hq)) h
theorem lenI_le (a : Nat) : lenI a ≤ 400 := by
  unfold lenI
  split
  · rename_i n h; exact lkp_le (by decide) h
  · exact Nat.zero_le _
theorem lenJ_le (a : Nat) : lenJ a ≤ 400 := by
  unfold lenJ
  split
  · rename_i n h; exact lkp_le (by decide) h
  · exact Nat.zero_le _
theorem ix_nI {j n : Nat} (h : j < n) (hn : n ≤ 400) : ix (nI j) n = some j := by
  unfold ix
  have hj : j < 2 ^ 31 := by omega
  rw [if_neg (nI_pos hj), nI_clamp hj, if_pos h]
section RW
variable {d u pc nx ax a j : Nat} {ng : Bool} {sw : List (Nat × Nat)} {L : Lc} {r fs : List Value} {S : Cl} {τ : Nat → Int32} {A : Nat → Nat → Int32} {B : Nat → Nat → Int64} {Q : Option Value → Hp → Prop}
theorem VV.ia {i : Int32} (e : codeAt u pc = some (.iaload, nx, ax, ng, sw)) (ha : (lkp tabI a).isSome = true) (hi : i = nI j) (hj : j < lenI a) (g : VV d u nx L (.int (A a j) :: r) (HH S τ A B) Q) : VV d u pc L (.int i :: .ref a :: r) (HH S τ A B) Q := by
  subst hi
  refine VV.s (pc' := nx) (L' := L) (st' := .int (A a j) :: r) (h' := HH S τ A B) ?_ g
  have h1 := ix_nI hj (lenI_le a)
  simp only [stp, e, kindI, stepI, s_ald, rdI S τ A B ha, mkI_len, h1, mkI_nth (A a) hj]
  rfl
theorem VV.ja {i : Int32} (e : codeAt u pc = some (.laload, nx, ax, ng, sw)) (ha : (lkp tabJ a).isSome = true) (hi : i = nI j) (hj : j < lenJ a) (g : VV d u nx L (.long (B a j) :: r) (HH S τ A B) Q) : VV d u pc L (.int i :: .ref a :: r) (HH S τ A B) Q := by
  subst hi
  refine VV.s (pc' := nx) (L' := L) (st' := .long (B a j) :: r) (h' := HH S τ A B) ?_ g
  have h1 := ix_nI hj (lenJ_le a)
  simp only [stp, e, kindI, stepI, s_ald, rdJ S τ A B ha, mkJ_len, h1, mkJ_nth (B a) hj]
  rfl
theorem VV.is {i x : Int32} (e : codeAt u pc = some (.iastore, nx, ax, ng, sw)) (ha : (lkp tabI a).isSome = true) (hi : i = nI j) (hj : j < lenI a) (g : VV d u nx L r (HH S τ (up A a (up (A a) j x)) B) Q) : VV d u pc L (.int x :: .int i :: .ref a :: r) (HH S τ A B) Q := by
  subst hi
  refine VV.s (pc' := nx) (L' := L) (st' := r) (h' := HH S τ (up A a (up (A a) j x)) B) ?_ g
  have h1 := ix_nI hj (lenI_le a)
  simp only [stp, e, kindI, stepI, s_ast, rdI S τ A B ha, mkI_len, h1, mkI_set (A a) x hj, wrI S τ A B ha]
  rfl
theorem VV.js {i : Int32} {x : Int64} (e : codeAt u pc = some (.lastore, nx, ax, ng, sw)) (ha : (lkp tabJ a).isSome = true) (hi : i = nI j) (hj : j < lenJ a) (g : VV d u nx L r (HH S τ A (up B a (up (B a) j x))) Q) : VV d u pc L (.long x :: .int i :: .ref a :: r) (HH S τ A B) Q := by
  subst hi
  refine VV.s (pc' := nx) (L' := L) (st' := r) (h' := HH S τ A (up B a (up (B a) j x))) ?_ g
  have h1 := ix_nI hj (lenJ_le a)
  simp only [stp, e, kindI, stepI, s_ast, rdJ S τ A B ha, mkJ_len, h1, mkJ_set (B a) x hj, wrJ S τ A B ha]
  rfl
theorem VV.il (e : codeAt u pc = some (.arraylength, nx, ax, ng, sw)) (ha : (lkp tabI a).isSome = true) (g : VV d u nx L (.int (nI (lenI a)) :: r) (HH S τ A B) Q) : VV d u pc L (.ref a :: r) (HH S τ A B) Q := by
  refine VV.s (pc' := nx) (L' := L) (st' := .int (nI (lenI a)) :: r) (h' := HH S τ A B) ?_ g
  simp only [stp, e, kindI, stepI, s_len, rdI S τ A B ha, mkI_len]
  rfl
theorem VV.jl (e : codeAt u pc = some (.arraylength, nx, ax, ng, sw)) (ha : (lkp tabJ a).isSome = true) (g : VV d u nx L (.int (nI (lenJ a)) :: r) (HH S τ A B) Q) : VV d u pc L (.ref a :: r) (HH S τ A B) Q := by
  refine VV.s (pc' := nx) (L' := L) (st' := .int (nI (lenJ a)) :: r) (h' := HH S τ A B) ?_ g
  simp only [stp, e, kindI, stepI, s_len, rdJ S τ A B ha, mkJ_len]
  rfl
theorem VV.g {k c z : Nat} {i : Nat} {v : Value} {h : Hp} (e : codeAt u pc = some (.getfield i, nx, k, ng, (c, z) :: sw)) (hg : nth h a = some (c, fs)) (hv : nth fs k = some v) (g : VV d u nx L (v :: r) h Q) : VV d u pc L (.ref a :: r) h Q := by
  refine VV.s (pc' := nx) (L' := L) (st' := v :: r) (h' := h) ?_ g
  have hc : Nat.beq c c = true := Nat.beq_refl c
  simp only [stp, e, kindI, stepI, s_get, hg, hv, hc, cond_true]
theorem VV.p {k c z : Nat} {i : Nat} {x : Int32} {h h' : Hp} (e : codeAt u pc = some (.putfield i, nx, k, ng, (c, z) :: sw)) (hg : nth h a = some (c, fs)) (hk : k < fs.length) (ho : okf (fty c k) (.int x) = true) (hw : setH h a (c, setV fs k (.int x)) = h') (g : VV d u nx L r h' Q) : VV d u pc L (.int x :: .ref a :: r) h Q := by
  refine VV.s (pc' := nx) (L' := L) (st' := r) (h' := h') ?_ g
  have hc : Nat.beq c c = true := Nat.beq_refl c
  have h2 : Nat.blt k fs.length = true := Nat.blt_eq.mpr hk
  simp only [stp, e, kindI, stepI, s_put, hg, hc, h2, ho, Bool.and_true, cond_true, hw]
end RW
/-! the kinds of objects -/
def tabG : List (Nat × Nat) := [(3, 0), (18, 0), (32, 0)]
def tabR : List (Nat × Nat) := [(6, 12), (9, 69), (11, 4), (13, 8), (15, 8), (21, 12), (24, 69), (26, 4), (28, 8), (30, 8), (40, 12)]
def tabT : List (Nat × Nat) := [(46, 0), (48, 0), (50, 0), (52, 0), (54, 0), (56, 0)]
def mostR (a : Nat) : Nat := match lkp tabR a with
  | some n => n
  | none => 0
section KD
variable {S : Cl} {τ : Nat → Int32} {A : Nat → Nat → Int32} {B : Nat → Nat → Int64} {g : Nat}
theorem rdG (h : (lkp tabG g).isSome = true) : nth (HH S τ A B) g = some (0, [.ref (g + 1), .ref (g + 2), .int (τ (100 * g + 2))]) ∧ (lkp tabJ (g + 1)).isSome = true ∧ lenJ (g + 1) = 16 ∧ (lkp tabJ (g + 2)).isSome = true ∧ lenJ (g + 2) = 16 ∧ ∀ x, setH (HH S τ A B) g (0, setV [.ref (g + 1), .ref (g + 2), .int (τ (100 * g + 2))] 2 (.int x)) = HH S (up τ (100 * g + 2) x) A B := by
  have hm := lkp_mem h
  simp only [tabG, List.map_cons, List.map_nil, List.mem_cons, List.not_mem_nil, or_false] at hm
  rcases hm with rfl | rfl | rfl <;> exact ⟨rfl, rfl, rfl, rfl, rfl, fun x => rfl⟩
theorem rdR (h : (lkp tabR g).isSome = true) : nth (HH S τ A B) g = some (1, [.ref (g + 1), .int (nI (mostR g)), .int (τ (100 * g + 2))]) ∧ (lkp tabI (g + 1)).isSome = true ∧ lenI (g + 1) = 3 * mostR g ∧ mostR g ≤ 69 ∧ ∀ x, setH (HH S τ A B) g (1, setV [.ref (g + 1), .int (nI (mostR g)), .int (τ (100 * g + 2))] 2 (.int x)) = HH S (up τ (100 * g + 2) x) A B := by
  have hm := lkp_mem h
  simp only [tabR, List.map_cons, List.map_nil, List.mem_cons, List.not_mem_nil, or_false] at hm
  rcases hm with rfl | rfl | rfl | rfl | rfl | rfl | rfl | rfl | rfl | rfl | rfl <;> exact ⟨rfl, rfl, rfl, by decide, fun x => rfl⟩
theorem rdT (h : (lkp tabT g).isSome = true) : nth (HH S τ A B) g = some (4, [.ref (g + 1), .int (τ (100 * g + 1)), .int (τ (100 * g + 2))]) ∧ (lkp tabJ (g + 1)).isSome = true ∧ lenJ (g + 1) = 60 ∧ (∀ x, setH (HH S τ A B) g (4, setV [.ref (g + 1), .int (τ (100 * g + 1)), .int (τ (100 * g + 2))] 1 (.int x)) = HH S (up τ (100 * g + 1) x) A B) ∧ ∀ x, setH (HH S τ A B) g (4, setV [.ref (g + 1), .int (τ (100 * g + 1)), .int (τ (100 * g + 2))] 2 (.int x)) = HH S (up τ (100 * g + 2) x) A B := by
  have hm := lkp_mem h
  simp only [tabT, List.map_cons, List.map_nil, List.mem_cons, List.not_mem_nil, or_false] at hm
  rcases hm with rfl | rfl | rfl | rfl | rfl | rfl <;> exact ⟨rfl, rfl, rfl, fun x => rfl, fun x => rfl⟩
end KD
