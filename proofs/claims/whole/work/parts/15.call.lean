/-! a whole run is a run of the machine: calls, ends, the claim's shape -/
theorem slt_setSame {h : Hp} {a t : Nat} {fs : List Value} {k : Nat} {v : Value} (hn : nth h a = some (t, fs)) : (setH h a (t, setV fs k v)).length = h.length ∧ slt (setH h a (t, setV fs k v)) = slt h := by
  rw [setH_eq, setV_eq]
  exact ⟨List.length_set, slt_set hn (by rw [List.length_set])⟩
set_option maxHeartbeats 4000000 in
theorem step_grow {a : AI} {L L' : Lc} {st st' : List Value} {h h1 : Hp} {pc' : Nat} (e0 : stepI a L st h = some (pc', L', st', h1)) : h.length ≤ h1.length ∧ slt h ≤ slt h1 := by
  obtain ⟨ins, nx, aux, neg, sw⟩ := a
  have fin : ∀ {x : Rs} , x = some (pc', L', st', h1) → (∀ q, x = some q → q.2.2.2 = h) → h.length ≤ h1.length ∧ slt h ≤ slt h1 := by
    intro x hx hq
    have := hq _ hx
    simp only at this
    rw [this]
    exact ⟨Nat.le_refl _, Nat.le_refl _⟩
  unfold stepI at e0
  simp only at e0
  split at e0
  all_goals first
    | (cases e0; done)
    | (refine fin e0 ?_
       intro q hq
       simp only [s_lda, s_ldi, s_ldl, s_sti, s_stl, s_sta, s_inc, s_k, s_ii, s_iid, s_i, s_ll, s_lld, s_l, s_li, s_dup, s_dup2, s_pop, s_icmp, s_if, s_ifnull, s_ifnn, s_sw, s_ald, s_len, s_obj, s_get, cond_eq_ite] at hq
       repeat' (first | (cases hq; done) | (split at hq))
       all_goals first
         | (cases hq; done)
         | (simp only [Option.some.injEq] at hq; subst hq; rfl)
       done)
    | skip
  · simp only [Option.some.injEq, Prod.mk.injEq] at e0
    obtain ⟨-, -, -, rfl⟩ := e0
    exact ⟨Nat.le_refl _, Nat.le_refl _⟩
  · unfold s_put at e0
    split at e0
    · split at e0
      · rename_i hn
        simp only [cond_eq_ite] at e0
        split at e0
        · simp only [Option.some.injEq, Prod.mk.injEq] at e0
          obtain ⟨-, -, -, rfl⟩ := e0
          obtain ⟨g1, g2⟩ := slt_setSame (v := _) (k := _) hn
          rw [g1, g2]
          exact ⟨Nat.le_refl _, Nat.le_refl _⟩
        · cases e0
      · cases e0
    · cases e0
  iterate 3
    · unfold s_ast at e0
      split at e0
      · split at e0
        · rename_i hn
          simp only [cond_eq_ite] at e0
          split at e0
          · split at e0
            · simp only [Option.some.injEq, Prod.mk.injEq] at e0
              obtain ⟨-, -, -, rfl⟩ := e0
              obtain ⟨g1, g2⟩ := slt_setSame (v := _) (k := _) hn
              rw [g1, g2]
              exact ⟨Nat.le_refl _, Nat.le_refl _⟩
            · cases e0
          · cases e0
        · cases e0
      · cases e0
  iterate 2
    · unfold s_newa at e0
      split at e0
      · simp only [cond_eq_ite] at e0
        split at e0
        · cases e0
        · split at e0
          · simp only [Option.some.injEq, Prod.mk.injEq] at e0
            obtain ⟨-, -, -, rfl⟩ := e0
            rw [slt_app, List.length_append]
            omega
          · cases e0
      · cases e0
  · unfold s_new at e0
    simp only [Option.some.injEq, Prod.mk.injEq] at e0
    obtain ⟨-, -, -, rfl⟩ := e0
    rw [slt_app, List.length_append]
    omega
  · unfold s_nat at e0
    simp only [cond_eq_ite] at e0
    split at e0
    · unfold s_copy at e0
      split at e0
      · split at e0
        · rename_i hna hnb
          simp only [cond_eq_ite] at e0
          split at e0
          · split at e0
            · cases e0
            · split at e0
              · simp only [Option.some.injEq, Prod.mk.injEq] at e0
                obtain ⟨-, -, -, rfl⟩ := e0
                rw [setH_eq, List.length_set, slt_set hnb (cpyV_len _ _ _ _ _)]
                exact ⟨Nat.le_refl _, Nat.le_refl _⟩
              · cases e0
          · cases e0
        · cases e0
      · cases e0
    · refine fin e0 ?_
      intro q hq
      repeat' (first | (cases hq; done) | (split at hq))
      all_goals first
        | (cases hq; done)
        | (simp only [Option.some.injEq] at hq; subst hq; rfl)
theorem zrun_grow : ∀ (k d u pc : Nat) (L : Lc) (st : List Value) (h : Hp) (v : Option Value) (h' : Hp), zrun k d u pc L st h = some (v, h') → h.length ≤ h'.length ∧ slt h ≤ slt h' := by
  intro k
  induction k with
  | zero => intro d u pc L st h v h' e; simp [zrun] at e
  | succ k ih =>
    intro d u pc L st h v h' e
    rw [zrun] at e
    cases hc : codeAt u pc with
    | none => rw [hc] at e; simp at e
    | some a =>
      rw [hc] at e
      simp only at e
      cases hk : kindI a with
      | zero =>
        rw [hk] at e
        simp only at e
        cases hs : stepI a L st h with
        | none => rw [hs] at e; simp at e
        | some q =>
          rw [hs] at e
          have g1 := step_grow hs
          have g2 := ih _ _ _ _ _ _ _ _ e
          exact ⟨Nat.le_trans g1.1 g2.1, Nat.le_trans g1.2 g2.2⟩
      | succ n =>
        rw [hk] at e
        cases n with
        | zero =>
          simp only at e
          cases d with
          | zero => simp at e
          | succ d' =>
            cases hq : zcall a st h with
            | none => rw [hq] at e; simp at e
            | some q =>
              rw [hq] at e
              obtain ⟨args, rest⟩ := q
              simp only at e
              cases hl : entL a.2.2.1 args with
              | none => rw [hl] at e; simp at e
              | some L' =>
                rw [hl] at e
                simp only at e
                cases hr : zrun k d' a.2.2.1 0 L' [] h with
                | none => rw [hr] at e; simp at e
                | some q =>
                  rw [hr] at e
                  obtain ⟨v1, h1⟩ := q
                  have g1 := ih _ _ _ _ _ _ _ _ hr
                  have g2 := ih _ _ _ _ _ _ _ _ e
                  exact ⟨Nat.le_trans g1.1 g2.1, Nat.le_trans g1.2 g2.2⟩
        | succ n =>
          simp only at e
          cases hr : retI a st with
          | none => rw [hr] at e; simp at e
          | some v1 =>
            rw [hr] at e
            simp only [Option.some.injEq, Prod.mk.injEq] at e
            rw [← e.2]
            exact ⟨Nat.le_refl _, Nat.le_refl _⟩
theorem popN_eq : ∀ (n : Nat) (st acc args rest : List Value), popN n st acc = some (args, rest) → ∃ as, as.length = n ∧ st = as ++ rest ∧ args = as.reverse ++ acc
  | 0, st, acc, args, rest, h => by
    simp only [popN, Option.some.injEq, Prod.mk.injEq] at h
    exact ⟨[], rfl, by simp [h.2], by simp [h.1]⟩
  | n + 1, [], acc, args, rest, h => by cases h
  | n + 1, v :: st, acc, args, rest, h => by
    rw [popN] at h
    obtain ⟨as, h1, h2, h3⟩ := popN_eq n st (v :: acc) args rest h
    exact ⟨v :: as, by simp [h1], by simp [h2], by simp [h3]⟩
theorem lg_len {n : Nat} (b : Nat) (as : List Nat) : ∀ (vs : List Value), okS n vs → (lg_sl (vs.map (zcv b as))).length = (argL vs).length
  | [], _ => rfl
  | v :: vs, h => by
    have h2 := List.forall_mem_cons.mp h
    have ih := lg_len b as vs h2.2
    unfold lg_sl at ih ⊢
    rw [List.map_cons, List.flatMap_cons, List.length_append, ih]
    cases v <;> first | (simp [argL, zcv, Value.category]; omega) | exact h2.1.elim
theorem lv_args_mem {n : Nat} (b : Nat) (as : List Nat) : ∀ (vs : List Value) (o i : Nat) (v : Value), okS n vs → nth (argL vs) i = some (some v) → (o + i, zcv b as v) ∈ lv_args o (vs.map (zcv b as))
  | [], o, i, v, _, h => by cases i <;> cases h
  | x :: vs, o, i, v, ok, h => by
    have h2 := List.forall_mem_cons.mp ok
    have ih := fun o i v => lv_args_mem b as vs o i v h2.2
    rw [List.map_cons, lv_args, zcv_cat]
    cases x with
    | long y =>
      simp only [argL] at h
      cases i with
      | zero =>
        simp only [nth, Option.some.injEq] at h
        subst h
        exact List.mem_cons_self
      | succ i =>
        cases i with
        | zero => simp [nth] at h
        | succ i =>
          have := ih (o + 2) i v h
          refine List.mem_cons_of_mem _ ?_
          simp only [Value.category, ↓reduceIte]
          rw [show o + (i + 1 + 1) = o + 2 + i by omega]
          exact this
    | float y => exact h2.1.elim
    | double y => exact h2.1.elim
    | retAddr y => exact h2.1.elim
    | int y | ref y | null =>
      simp only [argL] at h
      cases i with
      | zero =>
        simp only [nth, Option.some.injEq] at h
        subst h
        exact List.mem_cons_self
      | succ i =>
        have := ih (o + 1) i v h
        refine List.mem_cons_of_mem _ ?_
        simp only [Value.category, Nat.reduceEqDiff, ↓reduceIte]
        rw [show o + (i + 1) = o + 1 + i by omega]
        exact this
theorem padL_nth : ∀ (n i : Nat) (v : Value), nth (padL n) i ≠ some (some v)
  | 0, i, v => by cases i <;> simp [padL, nth]
  | n + 1, 0, v => by simp [padL, nth]
  | n + 1, i + 1, v => padL_nth n i v
theorem padL_len : ∀ n, (padL n).length = n
  | 0 => rfl
  | n + 1 => by rw [padL, List.length_cons, padL_len n]
theorem entL_of {u : Nat} {args : List Value} {L : Lc} (h : entL u args = some L) : ∃ n mx tg, mi u = some (n, mx, tg) ∧ (argL args).length ≤ mx ∧ L = argL args ++ padL (mx - (argL args).length) := by
  unfold entL at h
  split at h
  · rename_i n mx tg hm
    unfold fitL at h
    cases hb : Nat.ble (argL args).length mx with
    | false => rw [hb] at h; cases h
    | true =>
      rw [hb] at h
      simp only [cond_true, Option.some.injEq] at h
      exact ⟨n, mx, tg, hm, Nat.le_of_ble_eq_true hb, h.symm⟩
  · cases h
theorem ent_nth {args : List Value} {n i : Nat} {v : Value} (h : nth (argL args ++ padL n) i = some (some v)) : nth (argL args) i = some (some v) := by
  rw [nth_eq] at h
  by_cases hi : i < (argL args).length
  · rw [List.getElem?_append_left hi, ← nth_eq] at h
    exact h
  · rw [List.getElem?_append_right (by omega), ← nth_eq] at h
    exact absurd h (padL_nth _ _ _)
theorem argL_ok {n : Nat} {args : List Value} (ok : okS n args) : okLc n (argL args) := by
  induction args with
  | nil => intro i v h; cases i <;> cases h
  | cons x r ih =>
    have h2 := List.forall_mem_cons.mp ok
    intro i v h
    cases x with
    | long y =>
      simp only [argL] at h
      cases i with
      | zero => simp only [nth, Option.some.injEq] at h; subst h; trivial
      | succ i =>
        cases i with
        | zero => simp [nth] at h
        | succ i => exact ih h2.2 i v h
    | float y => exact h2.1.elim
    | double y => exact h2.1.elim
    | retAddr y => exact h2.1.elim
    | int y | ref y | null =>
      simp only [argL] at h
      cases i with
      | zero => simp only [nth, Option.some.injEq] at h; subst h; exact h2.1
      | succ i => exact ih h2.2 i v h
theorem ent_ok {n : Nat} {args : List Value} {u : Nat} {L : Lc} (ok : okS n args) (h : entL u args = some L) : okLc n L := by
  obtain ⟨-, mx, -, -, -, rfl⟩ := entL_of h
  intro i v hi
  exact argL_ok ok i v (ent_nth hi)
theorem ent_LO {n b : Nat} {as : List Nat} {args : List Value} {u mx q : Nat} {L : Lc} {tg : List Nat} (ok : okS n args) (h : entL u args = some L) (hm : mi u = some (q, mx, tg)) : LO ((lg_sl (args.map (zcv b as)) ++ List.replicate (mx - (lg_sl (args.map (zcv b as))).length) Slot.unset).toArray) mx b as L := by
  obtain ⟨q', mx', tg', hm', hle, rfl⟩ := entL_of h
  rw [hm] at hm'
  simp only [Option.some.injEq, Prod.mk.injEq] at hm'
  obtain ⟨rfl, rfl, rfl⟩ := hm'
  have hl := lg_len (n := n) b as args ok
  refine ⟨lv_mono (lv_entry (args.map (zcv b as)) (n := mx) (by rw [hl]; exact hle)) ?_, ?_⟩
  · intro q hq
    obtain ⟨i, v, hi, rfl⟩ := mem_Lz.mp hq
    have := lv_args_mem b as args 0 i v ok (ent_nth hi)
    rw [Nat.zero_add] at this
    exact this
  · rw [List.length_append, padL_len]
    omega
theorem z_call {p : Program} {l : Launch} {e : Env} {R : Room} {s : State} {m : MethodId} {args : Array Value} {below : List Frame} {meth : Method} {c : Code} {H H0 : Heap} {locs : List Loc} {cells slots mc ms pc : Nat} {ls : Array Slot} {rest st0 : List Value} {Qa : State → Outcome → State → Prop} {Q : State → Prop} {A0 A1 : Nat → Prop} {free : Addr → Prop} (hr : va_Run p l e R s m args below meth c H locs cells slots mc ms (F0 m pc ls st0) rest Qa free) (hS : va_S A0 H0 H locs) (hA : ∀ q, q < H.size → A1 q → A0 q) (hf : ∀ q, free q → A0 q) (hQ : ∀ st v t, Qa st (.returned v) t → va_F A1 st t)
    (kk : ∀ (v : Option Value) (st₀ t : State) (H1 : Heap) (locs1 : List Loc), st₀.heap = H → t.heap = H1 → s.vm.Alike t.vm → Qa st₀ (.returned v) t → va_S A0 H0 H1 locs1 → W p l e R s m args below meth c H1 locs1 (cells + mc) (slots + ms) Q (F0 m (pc + 3) ls (v.toList ++ rest))) : W p l e R s m args below meth c H locs cells slots Q (F0 m pc ls st0) := by
  intro T hT X
  obtain ⟨v, st₀, t, T', L, h0, X', hL, e1, e2, hq, st⟩ := hr T hT X
  obtain ⟨hz, hk⟩ := hQ _ _ _ hq
  rw [h0] at hz hk
  obtain ⟨t2, a1, b1⟩ := kk v st₀ t T'.heap (locs ++ L) h0 e1.symm (by rw [← e2]; exact X'.warmed.alike) hq
    ⟨Nat.le_trans hS.1 (by rw [e1]; exact hz), fun q h1 h2 => by rw [e1, hk q (Nat.lt_of_lt_of_le h1 hS.1) (fun z => h2 (hA q (Nat.lt_of_lt_of_le h1 hS.1) z))]; exact hS.2.1 q h1 h2, fun q hq => by
      rcases List.mem_append.mp hq with h | h
      · exact hS.2.2 q h
      · exact hf _ (hL q h)⟩ T' rfl X'
  exact ⟨t2, st t2 a1, b1⟩
