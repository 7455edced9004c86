/-! a run that needs no cells is the same over any cells -/
theorem nat_nil {w nx : Nat} {L L' : Lc} {st st' : List Value} {pc' : Nat} (h : Hp) (e0 : s_nat w nx L st [] = some (pc', L', st', [])) : s_nat w nx L st h = some (pc', L', st', h) := by
  unfold s_nat at e0 ⊢
  cases h9 : Nat.beq w 999 with
  | true =>
    rw [h9] at e0
    exfalso
    simp only [cond_true, s_copy, nth] at e0
    split at e0 <;> cases e0
  | false =>
    rw [h9] at e0
    simp only [cond_false] at e0 ⊢
    split at e0
    · rename_i y x r
      cases h8 : Nat.ble (catS r) 8 with
      | false => rw [h8] at e0; cases e0
      | true =>
        rw [h8] at e0
        simp only [cond_true] at e0 ⊢
        cases h0 : Nat.beq w 990 with
        | true => rw [h0] at e0; simp only [cond_true, Option.some.injEq, Prod.mk.injEq, and_true] at e0 ⊢; exact e0
        | false =>
          rw [h0] at e0
          simp only [cond_false] at e0 ⊢
          cases h1 : Nat.beq w 991 with
          | true => rw [h1] at e0; simp only [cond_true, Option.some.injEq, Prod.mk.injEq, and_true] at e0 ⊢; exact e0
          | false => rw [h1] at e0; cases e0
    · rename_i y x r
      cases h8 : Nat.ble (catS r) 8 with
      | false => rw [h8] at e0; cases e0
      | true =>
        rw [h8] at e0
        simp only [cond_true] at e0 ⊢
        cases h0 : Nat.beq w 992 with
        | true => rw [h0] at e0; simp only [cond_true, Option.some.injEq, Prod.mk.injEq, and_true] at e0 ⊢; exact e0
        | false =>
          rw [h0] at e0
          simp only [cond_false] at e0 ⊢
          cases h1 : Nat.beq w 993 with
          | true => rw [h1] at e0; simp only [cond_true, Option.some.injEq, Prod.mk.injEq, and_true] at e0 ⊢; exact e0
          | false =>
            rw [h1] at e0
            simp only [cond_false] at e0 ⊢
            cases h2 : Nat.beq w 994 with
            | true => rw [h2] at e0; simp only [cond_true, Option.some.injEq, Prod.mk.injEq, and_true] at e0 ⊢; exact e0
            | false => rw [h2] at e0; cases e0
    · rename_i y r hne
      cases h8 : (Nat.ble (catS r) 8 && Nat.beq w 994) with
      | false => rw [h8] at e0; cases e0
      | true => rw [h8] at e0; simp only [cond_true, Option.some.injEq, Prod.mk.injEq, and_true] at e0 ⊢; exact e0
    · cases e0
set_option maxHeartbeats 4000000 in
theorem step_nil {a : AI} {L L' : Lc} {st st' : List Value} {pc' : Nat} (h : Hp) (e0 : stepI a L st [] = some (pc', L', st', [])) : stepI a L st h = some (pc', L', st', h) := by
  obtain ⟨ins, nx, aux, neg, sw⟩ := a
  unfold stepI at e0 ⊢
  simp only at e0 ⊢
  split at e0
  all_goals first
    | (cases e0; done)
    | (simp only [s_lda, s_ldi, s_ldl, s_sti, s_stl, s_sta, s_inc, s_k, s_ii, s_iid, s_i, s_ll, s_lld, s_l, s_li, s_dup, s_dup2, s_pop, s_icmp, s_if, s_ifnull, s_ifnn, s_sw, s_obj, cond_eq_ite] at e0 ⊢
       repeat' (first | (cases e0; done) | (split at e0))
       all_goals first
         | (cases e0; done)
         | (simp_all; done)
       done)
    | (exfalso
       simp only [s_get, s_put, s_ald, s_ast, s_len, s_newa, s_new, nth, cond_eq_ite] at e0
       repeat' (first | (cases e0; done) | (split at e0))
       all_goals first
         | (cases e0; done)
         | (simp at e0; done)
       done)
    | skip
  · simp only [Option.some.injEq, Prod.mk.injEq, and_true] at e0 ⊢
    exact e0
  · exact nat_nil h e0
theorem zcall_nil {a : AI} {st args rest : List Value} (h : Hp) (e : zcall a st [] = some (args, rest)) : zcall a st h = some (args, rest) := by
  unfold zcall at e ⊢
  split at e
  · split at e
    · rename_i n tags hm x9 av re hp
      simp only [cond_eq_ite] at e ⊢
      have hr : recvOk tags av [] = true → recvOk tags av h = true := by
        intro z
        unfold recvOk at z ⊢
        split at z
        · rfl
        · split at z
          · simp [nth] at z
          · cases z
      split at e
      · rename_i hc
        rw [Bool.and_eq_true] at hc
        rw [if_pos (by rw [Bool.and_eq_true]; exact ⟨hr hc.1, hc.2⟩)]
        exact e
      · cases e
    · cases e
  · cases e
theorem zrun_nil : ∀ (k d u pc : Nat) (L : Lc) (st : List Value) (v : Option Value), zrun k d u pc L st [] = some (v, []) → ∀ h : Hp, zrun k d u pc L st h = some (v, h) := by
  intro k
  induction k with
  | zero => intro d u pc L st v e; simp [zrun] at e
  | succ k ih =>
    intro d u pc L st v e h
    rw [zrun] at e ⊢
    cases hc : codeAt u pc with
    | none => rw [hc] at e; simp at e
    | some a =>
      rw [hc] at e
      simp only at e ⊢
      cases hk : kindI a with
      | zero =>
        rw [hk] at e
        simp only at e ⊢
        cases hs : stepI a L st [] with
        | none => rw [hs] at e; simp at e
        | some q =>
          obtain ⟨pc', L', st', h1⟩ := q
          rw [hs] at e
          simp only at e
          have g := (zrun_grow _ _ _ _ _ _ _ _ _ e).1
          have h0 : h1 = [] := List.eq_nil_of_length_eq_zero (Nat.le_zero.mp g)
          subst h0
          rw [step_nil h hs]
          exact ih _ _ _ _ _ _ e h
      | succ n =>
        rw [hk] at e
        cases n with
        | zero =>
          simp only at e ⊢
          cases d with
          | zero => simp at e
          | succ d' =>
            cases hq : zcall a st [] with
            | none => rw [hq] at e; simp at e
            | some q =>
              obtain ⟨args, rest⟩ := q
              rw [hq] at e
              rw [zcall_nil h hq]
              simp only at e ⊢
              cases hl : entL a.2.2.1 args with
              | none => rw [hl] at e; simp at e
              | some L' =>
                rw [hl] at e
                simp only at e ⊢
                cases hr : zrun k d' a.2.2.1 0 L' [] [] with
                | none => rw [hr] at e; simp at e
                | some q =>
                  obtain ⟨v1, h1⟩ := q
                  rw [hr] at e
                  simp only at e
                  have g := (zrun_grow _ _ _ _ _ _ _ _ _ e).1
                  have h0 : h1 = [] := List.eq_nil_of_length_eq_zero (Nat.le_zero.mp g)
                  subst h0
                  rw [ih _ _ _ _ _ _ hr h]
                  exact ih _ _ _ _ _ _ e h
        | succ n =>
          simp only at e ⊢
          cases hr : retI a st with
          | none => rw [hr] at e; simp at e
          | some v1 =>
            rw [hr] at e
            simp only [Option.some.injEq, Prod.mk.injEq, and_true] at e
            rw [e]
theorem VV.fin {k d u pc : Nat} {L : Lc} {st : List Value} {h : Hp} {v : Option Value} {Q : Option Value → Hp → Prop} (e : zrun k d u pc L st [] = some (v, [])) (q : Q v h) : VV d u pc L st h Q := ⟨k, v, h, zrun_nil _ _ _ _ _ _ _ e h, q⟩
/-- how many bits a set of four has -/
def pop4 (x : Nat) : Nat := x % 2 + x / 2 % 2 + x / 4 % 2 + x / 8 % 2
def eqV (a b : Value) : Bool := match a, b with
  | .int x, .int y => decide (x = y)
  | .long x, .long y => decide (x = y)
  | .null, .null => true
  | _, _ => false
theorem eqV_eq {a b : Value} (h : eqV a b = true) : a = b := by
  cases a <;> cases b <;> first | (cases h; done) | rfl | (simp only [eqV, decide_eq_true_eq] at h; rw [h])
/-- a run over no cells that ends with that value -/
def gives (k d u : Nat) (L : Lc) (v : Value) : Bool := match zrun k d u 0 L [] [] with
  | some (some w, []) => eqV w v
  | _ => false
theorem gives_eq {k d u : Nat} {L : Lc} {v : Value} (h : gives k d u L v = true) : zrun k d u 0 L [] [] = some (some v, []) := by
  unfold gives at h
  split at h
  · rename_i w e
    rw [e, eqV_eq h]
  · cases h
theorem fin_bitCount : (List.range 16).all (fun x => gives 60 0 M_Integer_bitCount [some (.int (nI x))] (.int (nI (pop4 x)))) = true := by decide +kernel
theorem c_bitCount {d x : Nat} {h : Hp} {Q : Option Value → Hp → Prop} (hx : x < 16) (q : Q (some (.int (nI (pop4 x)))) h) : CC d M_Integer_bitCount [.int (nI x)] h Q := CC.deepN (d := 0) (CC.of rfl (VV.fin (gives_eq (List.all_eq_true.mp fin_bitCount x (List.mem_range.mpr hx))) q)) (Nat.zero_le _)
theorem fin_bits : (List.range 16).all (fun x => gives 100 0 M_M_bits [some (.int (nI x)), none, none] (.int (nI (pop4 x)))) = true := by decide +kernel
theorem c_bits {d x : Nat} {h : Hp} {Q : Option Value → Hp → Prop} (hx : x < 16) (q : Q (some (.int (nI (pop4 x)))) h) : CC d M_M_bits [.int (nI x)] h Q := CC.deepN (d := 0) (CC.of rfl (VV.fin (gives_eq (List.all_eq_true.mp fin_bits x (List.mem_range.mpr hx))) q)) (Nat.zero_le _)
