/-! a run that never asks for the first cell is the same whatever lies in it; what the two constructors leave -/
def dead : Cl := (98, [])
theorem get_dead {k nx : Nat} {sw : List (Nat × Nat)} {L : Lc} {st : List Value} {r : Hp} {q : Nat × Lc × List Value × Hp} (S : Cl) (e : s_get k nx sw L st (dead :: r) = some q) : ∃ r', q.2.2.2 = dead :: r' ∧ s_get k nx sw L st (S :: r) = some (q.1, q.2.1, q.2.2.1, S :: r') := by
  unfold s_get at e ⊢
  split at e
  · rename_i a rest c z l
    cases a with
    | zero =>
      simp only [nth, dead] at e
      cases hb : Nat.beq 98 c with
      | false => rw [hb] at e; cases e
      | true => rw [hb] at e; cases e
    | succ a =>
      simp only [nth] at e ⊢
      cases h : nth r a with
      | none => rw [h] at e; cases e
      | some c0 =>
        obtain ⟨t, fs⟩ := c0
        rw [h] at e
        simp only at e ⊢
        cases hb : Nat.beq t c with
        | false => rw [hb] at e; cases e
        | true =>
          rw [hb] at e
          simp only [cond_true] at e ⊢
          cases hf : nth fs k with
          | none => rw [hf] at e; cases e
          | some v => rw [hf] at e; cases e; exact ⟨r, rfl, rfl⟩
  · cases e
theorem put_dead {tys : Nat → Nat → FieldType} {k nx : Nat} {sw : List (Nat × Nat)} {L : Lc} {st : List Value} {r : Hp} {q : Nat × Lc × List Value × Hp} (S : Cl) (e : s_put tys k nx sw L st (dead :: r) = some q) : ∃ r', q.2.2.2 = dead :: r' ∧ s_put tys k nx sw L st (S :: r) = some (q.1, q.2.1, q.2.2.1, S :: r') := by
  unfold s_put at e ⊢
  split at e
  · rename_i v a rest c z l
    cases a with
    | zero =>
      simp only [nth, dead] at e
      rw [show Nat.blt k (List.length ([] : List Value)) = false from rfl] at e
      cases hb : Nat.beq 98 c with
      | false => rw [hb] at e; cases e
      | true => rw [hb] at e; cases e
    | succ a =>
      simp only [nth] at e ⊢
      cases h : nth r a with
      | none => rw [h] at e; cases e
      | some c0 =>
        obtain ⟨t, fs⟩ := c0
        rw [h] at e
        simp only at e ⊢
        cases hb : (Nat.beq t c && (Nat.blt k fs.length && okf (tys c k) v)) with
        | false => rw [hb] at e; cases e
        | true =>
          rw [hb] at e
          simp only [cond_true, setH] at e ⊢
          cases e
          exact ⟨_, rfl, rfl⟩
  · cases e
theorem ald_dead {tags : List Nat} {nx : Nat} {L : Lc} {st : List Value} {r : Hp} {q : Nat × Lc × List Value × Hp} (S : Cl) (e : s_ald tags nx L st (dead :: r) = some q) : ∃ r', q.2.2.2 = dead :: r' ∧ s_ald tags nx L st (S :: r) = some (q.1, q.2.1, q.2.2.1, S :: r') := by
  unfold s_ald at e ⊢
  split at e
  · rename_i i a rest
    cases a with
    | zero =>
      simp only [nth, dead] at e
      cases hb : tags.any (fun q => Nat.beq 98 q) with
      | false => rw [hb] at e; cases e
      | true =>
        rw [hb] at e
        simp only [cond_true] at e
        cases hi : ix i (List.length ([] : List Value)) with
        | none => rw [hi] at e; cases e
        | some j => rw [hi] at e; cases e
    | succ a =>
      simp only [nth] at e ⊢
      cases h : nth r a with
      | none => rw [h] at e; cases e
      | some c0 =>
        obtain ⟨t, fs⟩ := c0
        rw [h] at e
        simp only at e ⊢
        cases hb : tags.any (fun q => Nat.beq t q) with
        | false => rw [hb] at e; cases e
        | true =>
          rw [hb] at e
          simp only [cond_true] at e ⊢
          cases hi : ix i fs.length with
          | none => rw [hi] at e; cases e
          | some j =>
            rw [hi] at e
            simp only at e ⊢
            cases hf : nth fs j with
            | none => rw [hf] at e; cases e
            | some v => rw [hf] at e; cases e; exact ⟨r, rfl, rfl⟩
  · cases e
theorem tape_dead {v : Value} {r : Hp} (S : Cl) (e : isTape (dead :: r) v = true) : isTape (S :: r) v = true := by
  unfold isTape at e ⊢
  split at e
  · rename_i b
    cases b with
    | zero => cases e
    | succ b => exact e
  · cases e
theorem ast_dead {tag : Nat} {ok : Hp → Value → Bool} {nx : Nat} {L : Lc} {st : List Value} {r : Hp} {q : Nat × Lc × List Value × Hp} (S : Cl) (hok : ∀ v, ok (dead :: r) v = true → ok (S :: r) v = true) (e : s_ast tag ok nx L st (dead :: r) = some q) : ∃ r', q.2.2.2 = dead :: r' ∧ s_ast tag ok nx L st (S :: r) = some (q.1, q.2.1, q.2.2.1, S :: r') := by
  unfold s_ast at e ⊢
  split at e
  · rename_i v i a rest
    cases a with
    | zero =>
      simp only [nth, dead] at e
      cases hb : (Nat.beq 98 tag && ok ((98, []) :: r) v) with
      | false => rw [hb] at e; cases e
      | true =>
        rw [hb] at e
        simp only [cond_true] at e
        have hi : ix i (List.length ([] : List Value)) = none := by
          unfold ix
          split
          · rfl
          · exact if_neg (Nat.not_lt_zero _)
        rw [hi] at e
        cases e
    | succ a =>
      simp only [nth] at e ⊢
      cases h : nth r a with
      | none => rw [h] at e; cases e
      | some c0 =>
        obtain ⟨t, fs⟩ := c0
        rw [h] at e
        simp only at e ⊢
        cases hb : (Nat.beq t tag && ok (dead :: r) v) with
        | false => rw [hb] at e; cases e
        | true =>
          rw [hb] at e
          rw [Bool.and_eq_true] at hb
          rw [show (Nat.beq t tag && ok (S :: r) v) = true by rw [hb.1, hok v hb.2]; rfl]
          simp only [cond_true] at e ⊢
          cases hi : ix i fs.length with
          | none => rw [hi] at e; cases e
          | some j =>
            rw [hi] at e
            simp only [setH] at e ⊢
            cases e
            exact ⟨_, rfl, rfl⟩
  · cases e
theorem len_dead {nx : Nat} {L : Lc} {st : List Value} {r : Hp} {q : Nat × Lc × List Value × Hp} (S : Cl) (e : s_len nx L st (dead :: r) = some q) : ∃ r', q.2.2.2 = dead :: r' ∧ s_len nx L st (S :: r) = some (q.1, q.2.1, q.2.2.1, S :: r') := by
  unfold s_len at e ⊢
  split at e
  · rename_i a rest
    cases a with
    | zero => cases e
    | succ a =>
      simp only [nth] at e ⊢
      cases h : nth r a with
      | none => rw [h] at e; cases e
      | some c0 =>
        obtain ⟨t, fs⟩ := c0
        rw [h] at e
        simp only at e ⊢
        cases hb : Nat.ble 100 t with
        | false => rw [hb] at e; cases e
        | true => rw [hb] at e; cases e; exact ⟨r, rfl, rfl⟩
  · cases e
theorem newa_dead {tag : Nat} {v : Value} {nx : Nat} {L : Lc} {st : List Value} {r : Hp} {q : Nat × Lc × List Value × Hp} (S : Cl) (e : s_newa tag v nx L st (dead :: r) = some q) : ∃ r', q.2.2.2 = dead :: r' ∧ s_newa tag v nx L st (S :: r) = some (q.1, q.2.1, q.2.2.1, S :: r') := by
  unfold s_newa at e ⊢
  split at e
  · rename_i n rest
    by_cases c : n < 0
    · rw [if_pos c] at e; cases e
    · rw [if_neg c] at e
      rw [if_neg c]
      cases hb : Nat.ble n.toNatClampNeg 65536 with
      | false => rw [hb] at e; cases e
      | true => rw [hb] at e; cases e; exact ⟨_, rfl, rfl⟩
  · cases e
theorem new_dead {c n nx : Nat} {tys : Nat → Nat → FieldType} {L : Lc} {st : List Value} {r : Hp} {q : Nat × Lc × List Value × Hp} (S : Cl) (e : s_new c n nx tys L st (dead :: r) = some q) : ∃ r', q.2.2.2 = dead :: r' ∧ s_new c n nx tys L st (S :: r) = some (q.1, q.2.1, q.2.2.1, S :: r') := by
  unfold s_new at e ⊢
  cases e
  exact ⟨_, rfl, rfl⟩
theorem nat_dead {w nx : Nat} {L : Lc} {st : List Value} {r : Hp} {q : Nat × Lc × List Value × Hp} (S : Cl) (e : s_nat w nx L st (dead :: r) = some q) : ∃ r', q.2.2.2 = dead :: r' ∧ s_nat w nx L st (S :: r) = some (q.1, q.2.1, q.2.2.1, S :: r') := by
  unfold s_nat at e ⊢
  cases h9 : Nat.beq w 999 with
  | true =>
    rw [h9] at e
    simp only [cond_true] at e ⊢
    unfold s_copy at e ⊢
    split at e
    · rename_i n dp b sp a rest
      cases a with
      | zero =>
        cases b with
        | zero => simp only [nth, dead] at e; cases e
        | succ b =>
          simp only [nth, dead] at e
          cases hb : nth r b with
          | none => rw [hb] at e; cases e
          | some c => rw [hb] at e; cases e
      | succ a =>
        cases b with
        | zero =>
          simp only [nth, dead] at e
          cases ha : nth r a with
          | none => rw [ha] at e; cases e
          | some c =>
            obtain ⟨ta, fa⟩ := c
            rw [ha] at e
            simp only at e
            rw [show (Nat.beq ta 101 && (Nat.beq 98 101 && Nat.ble (catS rest) 8)) = false by rw [show Nat.beq 98 101 = false from rfl, Bool.false_and, Bool.and_false]] at e
            cases e
        | succ b =>
          simp only [nth] at e ⊢
          cases ha : nth r a with
          | none => rw [ha] at e; cases e
          | some ca =>
            cases hb : nth r b with
            | none => rw [ha, hb] at e; cases e
            | some cb =>
              obtain ⟨ta, fa⟩ := ca
              obtain ⟨tb, fb⟩ := cb
              rw [ha, hb] at e
              simp only [setH] at e ⊢
              cases h1 : (Nat.beq ta 101 && (Nat.beq tb 101 && Nat.ble (catS rest) 8)) with
              | false => rw [h1] at e; cases e
              | true =>
                rw [h1] at e
                simp only [cond_true] at e ⊢
                by_cases c : n < 0 ∨ sp < 0 ∨ dp < 0
                · rw [if_pos c] at e; cases e
                · rw [if_neg c] at e ⊢
                  cases h2 : (Nat.ble (sp.toNatClampNeg + n.toNatClampNeg) fa.length && Nat.ble (dp.toNatClampNeg + n.toNatClampNeg) fb.length) with
                  | false => rw [h2] at e; cases e
                  | true => rw [h2] at e; cases e; exact ⟨_, rfl, rfl⟩
    · cases e
  | false =>
    rw [h9] at e
    simp only [cond_false] at e ⊢
    split at e
    · rename_i y x rest
      cases h8 : Nat.ble (catS rest) 8 with
      | false => rw [h8] at e; cases e
      | true =>
        rw [h8] at e
        simp only [cond_true] at e ⊢
        cases h0 : Nat.beq w 990 with
        | true => rw [h0] at e; cases e; exact ⟨r, rfl, rfl⟩
        | false =>
          rw [h0] at e
          simp only [cond_false] at e ⊢
          cases h1 : Nat.beq w 991 with
          | true => rw [h1] at e; cases e; exact ⟨r, rfl, rfl⟩
          | false => rw [h1] at e; cases e
    · rename_i y x rest
      cases h8 : Nat.ble (catS rest) 8 with
      | false => rw [h8] at e; cases e
      | true =>
        rw [h8] at e
        simp only [cond_true] at e ⊢
        cases h0 : Nat.beq w 992 with
        | true => rw [h0] at e; cases e; exact ⟨r, rfl, rfl⟩
        | false =>
          rw [h0] at e
          simp only [cond_false] at e ⊢
          cases h1 : Nat.beq w 993 with
          | true => rw [h1] at e; cases e; exact ⟨r, rfl, rfl⟩
          | false =>
            rw [h1] at e
            simp only [cond_false] at e ⊢
            cases h2 : Nat.beq w 994 with
            | true => rw [h2] at e; cases e; exact ⟨r, rfl, rfl⟩
            | false => rw [h2] at e; cases e
    · rename_i y rest hne
      cases h8 : (Nat.ble (catS rest) 8 && Nat.beq w 994) with
      | false => rw [h8] at e; cases e
      | true => rw [h8] at e; cases e; exact ⟨r, rfl, rfl⟩
    · cases e
set_option maxHeartbeats 4000000 in
theorem step_dead {a : AI} {L : Lc} {st : List Value} {r : Hp} {q : Nat × Lc × List Value × Hp} (S : Cl) (e0 : stepI a L st (dead :: r) = some q) : ∃ r', q.2.2.2 = dead :: r' ∧ stepI a L st (S :: r) = some (q.1, q.2.1, q.2.2.1, S :: r') := by
  obtain ⟨ins, nx, aux, neg, sw⟩ := a
  unfold stepI at e0 ⊢
  simp only at e0 ⊢
  split at e0
  all_goals first
    | (cases e0; done)
    | (cases e0; exact ⟨r, rfl, rfl⟩)
    | exact get_dead S e0
    | exact put_dead S e0
    | exact ald_dead S e0
    | exact ast_dead S (fun _ h => h) e0
    | exact ast_dead S (fun _ h => tape_dead S h) e0
    | exact len_dead S e0
    | exact newa_dead S e0
    | exact new_dead S e0
    | exact nat_dead S e0
    | (simp only [s_lda, s_ldi, s_ldl, s_sti, s_stl, s_sta, s_inc, s_k, s_ii, s_iid, s_i, s_ll, s_lld, s_l, s_li, s_dup, s_dup2, s_pop, s_icmp, s_if, s_ifnull, s_ifnn, s_sw, s_obj, cond_eq_ite] at e0 ⊢
       repeat' (first | (cases e0; done) | (split at e0))
       all_goals first
         | (cases e0; done)
         | (cases e0; exact ⟨r, rfl, by simp_all⟩)
       done)
theorem mi_tags : mall.all (fun l => l.all (fun q => match q.2.2 with
  | t :: _ => !Nat.beq t 98
  | [] => true)) = true := by decide +kernel
theorem mi_98 {u n m t : Nat} {ts : List Nat} (h : mi u = some (n, m, t :: ts)) : Nat.beq 98 t = false := by
  unfold mi at h
  split at h
  · rename_i g hg
    rw [nth_eq] at hg h
    have m1 := List.all_eq_true.mp mi_tags g (List.mem_of_getElem? hg)
    have m2 := List.all_eq_true.mp m1 _ (List.mem_of_getElem? h)
    simp only at m2
    cases hb : Nat.beq 98 t with
    | false => rfl
    | true =>
      have := Nat.eq_of_beq_eq_true hb
      subst this
      cases m2
  · cases h
theorem zcall_dead {a : AI} {st args rest : List Value} {r : Hp} (S : Cl) (e : zcall a st (dead :: r) = some (args, rest)) : zcall a st (S :: r) = some (args, rest) := by
  unfold zcall at e ⊢
  split at e
  · rename_i n x9 tags hm
    split at e
    · rename_i av re hp
      simp only [cond_eq_ite] at e ⊢
      have hr : recvOk tags av (dead :: r) = true → recvOk tags av (S :: r) = true := by
        intro z
        unfold recvOk at z ⊢
        cases tags with
        | nil => rfl
        | cons t ts =>
          simp only at z ⊢
          split at z
          · rename_i b l
            cases b with
            | zero =>
              simp only [nth, dead] at z
              rw [mi_98 hm] at z
              cases z
            | succ b => exact z
          · cases z
      split at e
      · rename_i hc
        rw [Bool.and_eq_true] at hc
        rw [if_pos (by rw [Bool.and_eq_true]; exact ⟨hr hc.1, hc.2⟩)]
        exact e
      · cases e
    · cases e
  · cases e
theorem zrun_dead (S : Cl) : ∀ (k d u pc : Nat) (L : Lc) (st : List Value) (r : Hp) (v : Option Value) (h1 : Hp), zrun k d u pc L st (dead :: r) = some (v, h1) → ∃ r', h1 = dead :: r' ∧ zrun k d u pc L st (S :: r) = some (v, S :: r') := by
  intro k
  induction k with
  | zero => intro d u pc L st r v h1 e; simp [zrun] at e
  | succ k ih =>
    intro d u pc L st r v h1 e
    rw [zrun] at e ⊢
    cases hc : codeAt u pc with
    | none => rw [hc] at e; simp at e
    | some a =>
      rw [hc] at e
      simp only at e ⊢
      cases hk : kindI a with
      | zero =>
        rw [hk] at e
        simp only at e ⊢
        cases hs : stepI a L st (dead :: r) with
        | none => rw [hs] at e; simp at e
        | some q =>
          obtain ⟨r', e1, e2⟩ := step_dead S hs
          obtain ⟨pc', L', st', h2⟩ := q
          simp only at e1 e2
          subst e1
          rw [hs] at e
          simp only at e
          rw [e2]
          exact ih _ _ _ _ _ _ _ _ e
      | succ n =>
        rw [hk] at e
        cases n with
        | zero =>
          simp only at e ⊢
          cases d with
          | zero => simp at e
          | succ d' =>
            cases hq : zcall a st (dead :: r) with
            | none => rw [hq] at e; simp at e
            | some q =>
              obtain ⟨args, rest⟩ := q
              rw [hq] at e
              rw [zcall_dead S hq]
              simp only at e ⊢
              cases hl : entL a.2.2.1 args with
              | none => rw [hl] at e; simp at e
              | some L' =>
                rw [hl] at e
                simp only at e ⊢
                cases hr : zrun k d' a.2.2.1 0 L' [] (dead :: r) with
                | none => rw [hr] at e; simp at e
                | some q =>
                  obtain ⟨v1, h2⟩ := q
                  rw [hr] at e
                  simp only at e
                  obtain ⟨r', e1, e2⟩ := ih _ _ _ _ _ _ _ _ hr
                  subst e1
                  rw [e2]
                  exact ih _ _ _ _ _ _ _ _ e
        | succ n =>
          simp only at e ⊢
          cases hr : retI a st with
          | none => rw [hr] at e; simp at e
          | some v1 =>
            rw [hr] at e
            simp only [Option.some.injEq, Prod.mk.injEq] at e
            obtain ⟨e1, e2⟩ := e
            subst e1
            exact ⟨r, e2.symm, rfl⟩
def eqVs : List Value → List Value → Bool
  | [], [] => true
  | .ref a :: r, .ref b :: q => Nat.beq a b && eqVs r q
  | a :: r, b :: q => eqV a b && eqVs r q
  | _, _ => false
theorem eqVs_eq : ∀ {a b : List Value}, eqVs a b = true → a = b := by
  intro a
  induction a with
  | nil => intro b h; cases b with
    | nil => rfl
    | cons x y => cases h
  | cons x y ih =>
    intro b h
    cases b with
    | nil => cases x <;> cases h
    | cons u w =>
      unfold eqVs at h
      split at h
      · rename_i hx; cases hx
      · rename_i a r b q hx hy
        cases hx; cases hy
        rw [Bool.and_eq_true] at h
        rw [Nat.eq_of_beq_eq_true h.1, ih h.2]
      · rename_i a r b q hne hx hy
        cases hx; cases hy
        rw [Bool.and_eq_true] at h
        rw [eqV_eq h.1, ih h.2]
      · cases h
def eqH : Hp → Hp → Bool
  | [], [] => true
  | (t, a) :: r, (u, b) :: q => Nat.beq t u && (eqVs a b && eqH r q)
  | _, _ => false
theorem eqH_eq : ∀ {a b : Hp}, eqH a b = true → a = b := by
  intro a
  induction a with
  | nil => intro b h; cases b with
    | nil => rfl
    | cons x y => cases h
  | cons x y ih =>
    intro b h
    obtain ⟨t, a⟩ := x
    cases b with
    | nil => cases h
    | cons u w =>
      obtain ⟨c, e⟩ := u
      simp only [eqH, Bool.and_eq_true] at h
      rw [Nat.eq_of_beq_eq_true h.1, eqVs_eq h.2.1, ih h.2.2]
def endsN (x : Option (Option Value × Hp)) (h : Hp) : Bool := match x with
  | some (none, g) => eqH g h
  | _ => false
theorem endsN_eq {x : Option (Option Value × Hp)} {h : Hp} (e : endsN x h = true) : x = some (none, h) := by
  unfold endsN at e
  split at e
  · rw [eqH_eq e]
  · cases e
