/-! the judgement: a run comes to an end, and what holds there -/
theorem zrun_mono : ∀ (k d u pc : Nat) (L : Lc) (st : List Value) (h : Hp) (r : Option Value × Hp), zrun k d u pc L st h = some r → zrun (k + 1) d u pc L st h = some r := by
  intro k
  induction k with
  | zero => intro d u pc L st h r e; simp [zrun] at e
  | succ k ih =>
    intro d u pc L st h r e
    rw [zrun] at e ⊢
    cases hc : codeAt u pc with
    | none => rw [hc] at e; simp at e
    | some a =>
      rw [hc] at e
      simp only at e ⊢
      cases hk : kindI a with
      | zero =>
        rw [hk] at e
        simp only at e ⊢
        cases hs : stepI a L st h with
        | none => rw [hs] at e; simp at e
        | some q => rw [hs] at e; exact ih _ _ _ _ _ _ _ e
      | succ n =>
        rw [hk] at e
        cases n with
        | zero =>
          simp only at e ⊢
          cases d with
          | zero => simp at e
          | succ d' =>
            cases hq : zcall a st h with
            | none => rw [hq] at e; simp at e
            | some q =>
              rw [hq] at e
              obtain ⟨args, rest⟩ := q
              simp only at e ⊢
              cases hl : entL a.2.2.1 args with
              | none => rw [hl] at e; simp at e
              | some L' =>
                rw [hl] at e
                simp only at e ⊢
                cases hr : zrun k d' a.2.2.1 0 L' [] h with
                | none => rw [hr] at e; simp at e
                | some q =>
                  rw [hr] at e
                  rw [ih _ _ _ _ _ _ _ hr]
                  exact ih _ _ _ _ _ _ _ e
        | succ n => exact e
theorem zrun_le {k k' d u pc : Nat} {L : Lc} {st : List Value} {h : Hp} {r : Option Value × Hp} (hk : k ≤ k') (e : zrun k d u pc L st h = some r) : zrun k' d u pc L st h = some r := by
  induction hk with
  | refl => exact e
  | step _ ih => exact zrun_mono _ _ _ _ _ _ _ _ ih
theorem zrun_dmono : ∀ (k d u pc : Nat) (L : Lc) (st : List Value) (h : Hp) (r : Option Value × Hp), zrun k d u pc L st h = some r → zrun k (d + 1) u pc L st h = some r := by
  intro k
  induction k with
  | zero => intro d u pc L st h r e; simp [zrun] at e
  | succ k ih =>
    intro d u pc L st h r e
    rw [zrun] at e ⊢
    cases hc : codeAt u pc with
    | none => rw [hc] at e; simp at e
    | some a =>
      rw [hc] at e
      simp only at e ⊢
      cases hk : kindI a with
      | zero =>
        rw [hk] at e
        simp only at e ⊢
        cases hs : stepI a L st h with
        | none => rw [hs] at e; simp at e
        | some q => rw [hs] at e; exact ih _ _ _ _ _ _ _ e
      | succ n =>
        rw [hk] at e
        cases n with
        | zero =>
          simp only at e ⊢
          cases d with
          | zero => simp at e
          | succ d' =>
            cases hq : zcall a st h with
            | none => rw [hq] at e; simp at e
            | some q =>
              rw [hq] at e
              obtain ⟨args, rest⟩ := q
              simp only at e ⊢
              cases hl : entL a.2.2.1 args with
              | none => rw [hl] at e; simp at e
              | some L' =>
                rw [hl] at e
                simp only at e ⊢
                cases hr : zrun k d' a.2.2.1 0 L' [] h with
                | none => rw [hr] at e; simp at e
                | some q =>
                  rw [hr] at e
                  rw [ih _ _ _ _ _ _ _ hr]
                  exact ih _ _ _ _ _ _ _ e
        | succ n => exact e
def VV (d u pc : Nat) (L : Lc) (st : List Value) (h : Hp) (Q : Option Value → Hp → Prop) : Prop := ∃ (k : Nat) (v : Option Value) (h' : Hp), zrun k d u pc L st h = some (v, h') ∧ Q v h'
def CC (d u : Nat) (args : List Value) (h : Hp) (Q : Option Value → Hp → Prop) : Prop := match entL u args with
  | some L => VV d u 0 L [] h Q
  | none => False
def stp (u pc : Nat) (L : Lc) (st : List Value) (h : Hp) : Rs := match codeAt u pc with
  | some a => (match kindI a with
    | 0 => stepI a L st h
    | _ => none)
  | none => none
def cll (u pc : Nat) (st : List Value) (h : Hp) : Option (Nat × Nat × List Value × List Value) := match codeAt u pc with
  | some a => (match kindI a with
    | 1 => (match zcall a st h with
      | some (args, rest) => some (a.2.2.1, a.2.1, args, rest)
      | none => none)
    | _ => none)
  | none => none
def rtn (u pc : Nat) (st : List Value) : Option (Option Value) := match codeAt u pc with
  | some a => (match kindI a with
    | 2 => retI a st
    | _ => none)
  | none => none
theorem VV.s {d u pc pc' : Nat} {L L' : Lc} {st st' : List Value} {h h' : Hp} {Q : Option Value → Hp → Prop} (e : stp u pc L st h = some (pc', L', st', h')) (g : VV d u pc' L' st' h' Q) : VV d u pc L st h Q := by
  obtain ⟨k, v, h2, e2, q⟩ := g
  refine ⟨k + 1, v, h2, ?_, q⟩
  unfold stp at e
  rw [zrun]
  cases hc : codeAt u pc with
  | none => rw [hc] at e; simp at e
  | some a =>
    rw [hc] at e
    simp only at e ⊢
    cases hk : kindI a with
    | zero => rw [hk] at e; simp only at e ⊢; rw [e]; exact e2
    | succ n => rw [hk] at e; simp at e
theorem VV.c {d u pc u' nx : Nat} {L : Lc} {st args rest : List Value} {h : Hp} {Q : Option Value → Hp → Prop} (e : cll u pc st h = some (u', nx, args, rest)) (g : CC d u' args h (fun v h' => VV (d + 1) u nx L (pushV v rest) h' Q)) : VV (d + 1) u pc L st h Q := by
  unfold cll at e
  unfold CC at g
  cases hl : entL u' args with
  | none => rw [hl] at g; exact g.elim
  | some L' =>
    rw [hl] at g
    obtain ⟨k, v, h2, e2, k3, v3, h3, e3, q⟩ := g
    refine ⟨max k k3 + 1, v3, h3, ?_, q⟩
    rw [zrun]
    cases hc : codeAt u pc with
    | none => rw [hc] at e; simp at e
    | some a =>
      rw [hc] at e
      simp only at e ⊢
      cases hk : kindI a with
      | zero => rw [hk] at e; simp at e
      | succ n =>
        rw [hk] at e
        cases n with
        | succ n => simp at e
        | zero =>
          simp only at e ⊢
          cases hq : zcall a st h with
          | none => rw [hq] at e; simp at e
          | some q =>
            rw [hq] at e
            obtain ⟨args', rest'⟩ := q
            simp only [Option.some.injEq, Prod.mk.injEq] at e ⊢
            obtain ⟨e1, e4, e5, e6⟩ := e
            subst e1 e4 e5 e6
            rw [hl]
            simp only
            rw [zrun_le (Nat.le_max_left k k3) e2]
            exact zrun_le (Nat.le_max_right k k3) e3
theorem VV.r {d u pc : Nat} {L : Lc} {st : List Value} {h : Hp} {v : Option Value} {Q : Option Value → Hp → Prop} (e : rtn u pc st = some v) (q : Q v h) : VV d u pc L st h Q := by
  refine ⟨1, v, h, ?_, q⟩
  unfold rtn at e
  rw [zrun]
  cases hc : codeAt u pc with
  | none => rw [hc] at e; simp at e
  | some a =>
    rw [hc] at e
    simp only at e ⊢
    cases hk : kindI a with
    | zero => rw [hk] at e; simp at e
    | succ n =>
      rw [hk] at e
      cases n with
      | zero => simp at e
      | succ n =>
        cases n with
        | succ n => simp at e
        | zero => simp only at e ⊢; rw [e]
theorem VV.i {d u a b : Nat} {L : Lc} {st : List Value} {h : Hp} {Q : Option Value → Hp → Prop} {c : Prop} [Decidable c] (t : c → VV d u a L st h Q) (f : ¬ c → VV d u b L st h Q) : VV d u (if c then a else b) L st h Q := by
  by_cases hc : c
  · rw [if_pos hc]; exact t hc
  · rw [if_neg hc]; exact f hc
theorem VV.mono {d u pc : Nat} {L : Lc} {st : List Value} {h : Hp} {Q Q' : Option Value → Hp → Prop} (g : VV d u pc L st h Q) (m : ∀ v h', Q v h' → Q' v h') : VV d u pc L st h Q' := by
  obtain ⟨k, v, h2, e, q⟩ := g
  exact ⟨k, v, h2, e, m _ _ q⟩
theorem CC.of {d u : Nat} {L : Lc} {args : List Value} {h : Hp} {Q : Option Value → Hp → Prop} (e : entL u args = some L) (g : VV d u 0 L [] h Q) : CC d u args h Q := by
  unfold CC; rw [e]; exact g
theorem CC.mono {d u : Nat} {args : List Value} {h : Hp} {Q Q' : Option Value → Hp → Prop} (g : CC d u args h Q) (m : ∀ v h', Q v h' → Q' v h') : CC d u args h Q' := by
  unfold CC at g ⊢
  cases hl : entL u args with
  | none => rw [hl] at g; exact g
  | some L => rw [hl] at g; exact VV.mono g m
theorem VV.deep {d u pc : Nat} {L : Lc} {st : List Value} {h : Hp} {Q : Option Value → Hp → Prop} (g : VV d u pc L st h Q) : VV (d + 1) u pc L st h Q := by
  obtain ⟨k, v, h2, e, q⟩ := g
  exact ⟨k, v, h2, zrun_dmono _ _ _ _ _ _ _ _ e, q⟩
theorem CC.deep {d u : Nat} {args : List Value} {h : Hp} {Q : Option Value → Hp → Prop} (g : CC d u args h Q) : CC (d + 1) u args h Q := by
  unfold CC at g ⊢
  cases hl : entL u args with
  | none => rw [hl] at g; exact g
  | some L => rw [hl] at g; exact VV.deep g
theorem CC.deepN {d u : Nat} {args : List Value} {h : Hp} {Q : Option Value → Hp → Prop} (g : CC d u args h Q) {d' : Nat} (hd : d ≤ d') : CC d' u args h Q := by
  induction hd with
  | refl => exact g
  | step _ ih => exact CC.deep ih
