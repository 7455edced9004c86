/-! the machine's own methods, and any step at all -/
section SIM5
variable {p : Program} {l : Launch} {e : Env} {R : Room} {s : State} {m : MethodId} {args : Array Value} {below : List Frame} {meth : Method} {c : Code} {Qm : State → Prop} {D : va_G} {A : Nat → Prop} {H0 : Heap} {b Lx nL : Nat} {xs : Nat → Int32} {own : String} {cc : ByteArray}
variable {as : List Nat} {ws : va_W} {tys : List (ClassId × FieldType)} {H : Heap} {locs : List Loc} {cells slots : Nat} {ls : Array Slot} {L L' : Lc} {st st' : List Value} {h h1 : Hp} {pc pc' nx : Nat}
theorem catS_eq : ∀ (st : List Value), (st.map fun v => v.category).sum = catS st
  | [] => rfl
  | v :: r => by
    rw [List.map_cons, List.sum_cons, catS_eq r]
    cases v <;> simp [catS, Value.category, Nat.add_comm]
theorem catS_cv (b : Nat) (as : List Nat) (st : List Value) : ((st.map (zcv b as)).map fun v => v.category).sum = catS st := by
  rw [List.map_map, ← catS_eq]
  congr 1
  apply List.map_congr_left
  intro v _
  exact zcv_cat b as v
theorem nrl_mem {o i w : Nat} : ∀ {l : List (Nat × Nat × Nat × Nat)}, nrl o i l = some w → ∃ q, (o, i, w, q) ∈ l
  | [], h => by cases h
  | (a, b, w', q) :: l, h => by
    unfold nrl at h
    cases hb : (Nat.beq a o && Nat.beq b i) with
    | true =>
      rw [hb] at h
      simp only [cond_true, Option.some.injEq] at h
      simp only [Bool.and_eq_true] at hb
      subst h
      have h1 := Nat.eq_of_beq_eq_true hb.1
      have h2 := Nat.eq_of_beq_eq_true hb.2
      subst h1 h2
      exact ⟨q, List.mem_cons_self⟩
    | false =>
      rw [hb] at h
      obtain ⟨q, hq⟩ := nrl_mem h
      exact ⟨q, List.mem_cons_of_mem _ hq⟩
theorem nrl_ok {o i w : Nat} (h : nrl o i nrt = some w) : Cond.methodLink (cn o) i (natY w) ∈ zt := by
  obtain ⟨q, hq⟩ := nrl_mem h
  exact lw_at_mem (List.all_eq_true.mp nrt_ok _ hq)
theorem nat_stOf {w : Nat} (h : w ∈ [990, 991, 992, 993, 994, 999]) : Cond.static (natY w) ∈ zt := of_decide_eq_true (List.all_eq_true.mp nat_st w h)
theorem nat_ins : Cond.initialized "java/lang/Math" ∈ zt ∧ Cond.initialized "java/lang/System" ∈ zt ∧ Cond.native arraycopyName ∈ zt ∧ Cond.instanceMethod Lib.objectInit ∈ zt := by
  have := nat_in
  simp only [Bool.and_eq_true, decide_eq_true_eq] at this
  exact ⟨this.1.1.1, this.1.1.2, this.1.2, this.2⟩
theorem sm_obj {oc idx : Nat} (cx : Cx p R m c s args cc nL own b Lx xs A H0) (hown : own = cn oc) (hf : nrl oc idx nrt = some 998) (hdg : decode cc pc = .ok (.invokespecial idx, 3)) (hnx : pc + 3 = nx) (e0 : s_obj nx L st h = some (pc', L', st', h1)) (w : Wd D s A H0 b Lx xs h as ws tys H locs) (lo : LO ls nL b as L) (okl : okLc h.length L) (oks : okS h.length st) (kk : Kn p l e R s m args below meth c Qm D A H0 b Lx nL xs as h.length (slt h) cells slots h1 L' st' pc') : W p l e R s m args below meth c H locs cells slots Qm (F0 m pc ls (st.map (zcv b as))) := by
  obtain ⟨hx, hb, hml, ho, hts, hX, hbl, hbA, hA, hfr, hlo⟩ := cx
  have f1 := nrl_ok hf
  rw [← hown] at f1
  unfold s_obj at e0
  split at e0
  · rename_i a r
    cases hb2 : Nat.ble (catS r) 8 with
    | false => rw [hb2] at e0; cases e0
    | true =>
      rw [hb2] at e0
      have h8 := Nat.le_of_ble_eq_true hb2
      simp only [cond_true, Option.some.injEq, Prod.mk.injEq] at e0; obtain ⟨rfl, rfl, rfl, rfl⟩ := e0
      have KK := Kn.same kk w lo okl (List.forall_mem_cons.mp oks).2
      rw [List.map_cons]
      show W p l e R s m args below meth c H locs cells slots Qm (F0 m pc ls (.ref (zad b as a) :: r.map (zcv b as)))
      refine W.objInit hx hb ho (hts _ f1) (hts _ nat_ins.2.2.2) (hts _ ncw998) rfl (by show ls.size = c.maxLocals; rw [hml]; exact lo.1.1) rfl hdg hfr ?_ ?_
      · show 2 * 0 + _ + 12 ≤ _
        rw [catS_cv]
        omega
      · refine W.eq (g2 := F0 m nx ls (r.map (zcv b as))) ?_ KK
        rw [← hnx]
  · cases e0
theorem sm_n990 {oc idx : Nat} (cx : Cx p R m c s args cc nL own b Lx xs A H0) (hrc : cells ≤ R.cells ∧ slots ≤ R.slots) (hown : own = cn oc) (hf : nrl oc idx nrt = some 990) (hdg : decode cc pc = .ok (.invokestatic idx, 3)) (hnx : pc + 3 = nx) {x y : Int32} {r : List Value} (h8 : catS r ≤ 8) (w : Wd D s A H0 b Lx xs h as ws tys H locs) (lo : LO ls nL b as L) (okl : okLc h.length L) (okr : okS h.length r) (kk : Kn p l e R s m args below meth c Qm D A H0 b Lx nL xs as h.length (slt h) cells slots h L (.int (if x < y then y else x) :: r) nx) : W p l e R s m args below meth c H locs cells slots Qm (F0 m pc ls (.int y :: .int x :: r.map (zcv b as))) := by
  obtain ⟨hx, hb, hml, ho, hts, hX, hbl, hbA, hA, hfr, hlo⟩ := cx
  have f1 := nrl_ok hf
  rw [← hown] at f1
  have KK := Kn.same kk w lo okl (List.forall_mem_cons.mpr ⟨trivial, okr⟩)
  exact va_mmax hx hb (hml.trans lo.1.1.symm) ho (hts _ f1) (hts _ (nat_stOf (w := 990) (by decide))) (hts _ nat_ins.1) (hts _ ncw990) hfr (by rw [catS_cv]; omega) hrc.1 hrc.2 hdg (by rw [hnx]; exact KK)
theorem sm_n991 {oc idx : Nat} (cx : Cx p R m c s args cc nL own b Lx xs A H0) (hrc : cells ≤ R.cells ∧ slots ≤ R.slots) (hown : own = cn oc) (hf : nrl oc idx nrt = some 991) (hdg : decode cc pc = .ok (.invokestatic idx, 3)) (hnx : pc + 3 = nx) {x y : Int32} {r : List Value} (h8 : catS r ≤ 8) (w : Wd D s A H0 b Lx xs h as ws tys H locs) (lo : LO ls nL b as L) (okl : okLc h.length L) (okr : okS h.length r) (kk : Kn p l e R s m args below meth c Qm D A H0 b Lx nL xs as h.length (slt h) cells slots h L (.int (if y < x then y else x) :: r) nx) : W p l e R s m args below meth c H locs cells slots Qm (F0 m pc ls (.int y :: .int x :: r.map (zcv b as))) := by
  obtain ⟨hx, hb, hml, ho, hts, hX, hbl, hbA, hA, hfr, hlo⟩ := cx
  have f1 := nrl_ok hf
  rw [← hown] at f1
  have KK := Kn.same kk w lo okl (List.forall_mem_cons.mpr ⟨trivial, okr⟩)
  exact va_mmin hx hb (hml.trans lo.1.1.symm) ho (hts _ f1) (hts _ (nat_stOf (w := 991) (by decide))) (hts _ nat_ins.1) (hts _ ncw991) hfr (by rw [catS_cv]; omega) hrc.1 hrc.2 hdg (by rw [hnx]; exact KK)
theorem sm_n992 {oc idx : Nat} (cx : Cx p R m c s args cc nL own b Lx xs A H0) (hrc : cells ≤ R.cells ∧ slots ≤ R.slots) (hown : own = cn oc) (hf : nrl oc idx nrt = some 992) (hdg : decode cc pc = .ok (.invokestatic idx, 3)) (hnx : pc + 3 = nx) {x y : Int64} {r : List Value} (h8 : catS r ≤ 8) (w : Wd D s A H0 b Lx xs h as ws tys H locs) (lo : LO ls nL b as L) (okl : okLc h.length L) (okr : okS h.length r) (kk : Kn p l e R s m args below meth c Qm D A H0 b Lx nL xs as h.length (slt h) cells slots h L (.long (if y < x then x else y) :: r) nx) : W p l e R s m args below meth c H locs cells slots Qm (F0 m pc ls (.long y :: .long x :: r.map (zcv b as))) := by
  obtain ⟨hx, hb, hml, ho, hts, hX, hbl, hbA, hA, hfr, hlo⟩ := cx
  have f1 := nrl_ok hf
  rw [← hown] at f1
  have KK := Kn.same kk w lo okl (List.forall_mem_cons.mpr ⟨trivial, okr⟩)
  exact va_mmax_long hx hb (hml.trans lo.1.1.symm) ho (hts _ f1) (hts _ (nat_stOf (w := 992) (by decide))) (hts _ nat_ins.1) (hts _ ncw992) hfr (by rw [catS_cv]; omega) hrc.1 hrc.2 hdg (by rw [hnx]; exact KK)
theorem sm_n993 {oc idx : Nat} (cx : Cx p R m c s args cc nL own b Lx xs A H0) (hrc : cells ≤ R.cells ∧ slots ≤ R.slots) (hown : own = cn oc) (hf : nrl oc idx nrt = some 993) (hdg : decode cc pc = .ok (.invokestatic idx, 3)) (hnx : pc + 3 = nx) {x y : Int64} {r : List Value} (h8 : catS r ≤ 8) (w : Wd D s A H0 b Lx xs h as ws tys H locs) (lo : LO ls nL b as L) (okl : okLc h.length L) (okr : okS h.length r) (kk : Kn p l e R s m args below meth c Qm D A H0 b Lx nL xs as h.length (slt h) cells slots h L (.long (if y < x then y else x) :: r) nx) : W p l e R s m args below meth c H locs cells slots Qm (F0 m pc ls (.long y :: .long x :: r.map (zcv b as))) := by
  obtain ⟨hx, hb, hml, ho, hts, hX, hbl, hbA, hA, hfr, hlo⟩ := cx
  have f1 := nrl_ok hf
  rw [← hown] at f1
  have KK := Kn.same kk w lo okl (List.forall_mem_cons.mpr ⟨trivial, okr⟩)
  exact va_mmin_long hx hb (hml.trans lo.1.1.symm) ho (hts _ f1) (hts _ (nat_stOf (w := 993) (by decide))) (hts _ nat_ins.1) (hts _ ncw993) hfr (by rw [catS_cv]; omega) hrc.1 hrc.2 hdg (by rw [hnx]; exact KK)
theorem sm_n994 {oc idx : Nat} (cx : Cx p R m c s args cc nL own b Lx xs A H0) (hrc : cells ≤ R.cells ∧ slots ≤ R.slots) (hown : own = cn oc) (hf : nrl oc idx nrt = some 994) (hdg : decode cc pc = .ok (.invokestatic idx, 3)) (hnx : pc + 3 = nx) {y : Int64} {r : List Value} (h8 : catS r ≤ 10) (w : Wd D s A H0 b Lx xs h as ws tys H locs) (lo : LO ls nL b as L) (okl : okLc h.length L) (okr : okS h.length r) (kk : Kn p l e R s m args below meth c Qm D A H0 b Lx nL xs as h.length (slt h) cells slots h L (.long (if 0 < y then y else -y) :: r) nx) : W p l e R s m args below meth c H locs cells slots Qm (F0 m pc ls (.long y :: r.map (zcv b as))) := by
  obtain ⟨hx, hb, hml, ho, hts, hX, hbl, hbA, hA, hfr, hlo⟩ := cx
  have f1 := nrl_ok hf
  rw [← hown] at f1
  have KK := Kn.same kk w lo okl (List.forall_mem_cons.mpr ⟨trivial, okr⟩)
  exact va_mabs_long hx hb (hml.trans lo.1.1.symm) ho (hts _ f1) (hts _ (nat_stOf (w := 994) (by decide))) (hts _ nat_ins.1) (hts _ ncw994) hfr (by rw [catS_cv]; omega) hrc.1 hrc.2 hdg (by rw [hnx]; exact KK)
theorem cpyV_len (src : List Value) (sp dp : Nat) (d : List Value) : ∀ n, (cpyV src sp dp n d).length = d.length
  | 0 => rfl
  | n + 1 => by
    rw [cpyV]
    split
    · rw [setV_eq, List.length_set, cpyV_len src sp dp d n]
    · exact cpyV_len src sp dp d n
theorem cpyV_mem (src : List Value) (sp dp : Nat) (d : List Value) {u : Value} : ∀ n, u ∈ cpyV src sp dp n d → u ∈ d ∨ u ∈ src
  | 0, h => Or.inl h
  | n + 1, h => by
    rw [cpyV] at h
    split at h
    · rename_i v hv
      rw [setV_eq] at h
      rcases List.mem_or_eq_of_mem_set h with h | rfl
      · exact cpyV_mem src sp dp d n h
      · exact Or.inr (List.mem_of_getElem? (by rw [← nth_eq]; exact hv))
    · exact cpyV_mem src sp dp d n h
theorem cpyV_f {src d : List Value} {sp dp : Nat} {f g : Nat → Int64} (hf : ∀ (j : Nat) (v : Value), nth src j = some v → v = .long (f j)) (hg : ∀ (j : Nat) (v : Value), nth d j = some v → v = .long (g j)) : ∀ n, sp + n ≤ src.length → ∀ (j : Nat) (v : Value), nth (cpyV src sp dp n d) j = some v → v = .long (va_cpy f g sp dp n j)
  | 0, _, j, v, h => by
    rw [hg j v h]
    simp [va_cpy]
    intro h1 h2
    omega
  | n + 1, hn, j, v, h => by
    have hs : ∃ u, nth src (sp + n) = some u := ⟨src[sp + n]'(by omega), by rw [nth_eq]; exact List.getElem?_eq_getElem (by omega)⟩
    obtain ⟨u, hu⟩ := hs
    rw [cpyV, hu] at h
    simp only at h
    rw [setV_eq, nth_eq, List.getElem?_set] at h
    split at h
    · rename_i z
      subst z
      split at h
      · simp only [Option.some.injEq] at h
        subst h
        rw [hf _ _ hu]
        have : dp ≤ dp + n ∧ dp + n < dp + (n + 1) := by omega
        simp only [va_cpy, if_pos this]
        congr 2
        omega
      · cases h
    · rename_i z
      rw [← nth_eq] at h
      rw [cpyV_f hf hg n (by omega) j v h]
      unfold va_cpy
      by_cases hj : dp ≤ j ∧ j < dp + n
      · rw [if_pos hj, if_pos (by omega)]
      · rw [if_neg hj, if_neg (by omega)]
theorem sm_copy {oc idx : Nat} (cx : Cx p R m c s args cc nL own b Lx xs A H0) (hown : own = cn oc) (hf : nrl oc idx nrt = some 999) (hdg : decode cc pc = .ok (.invokestatic idx, 3)) (hnx : pc + 3 = nx) (e0 : s_copy nx L st h = some (pc', L', st', h1)) (w : Wd D s A H0 b Lx xs h as ws tys H locs) (lo : LO ls nL b as L) (okl : okLc h.length L) (oks : okS h.length st) (kk : Kn p l e R s m args below meth c Qm D A H0 b Lx nL xs as h.length (slt h) cells slots h1 L' st' pc') : W p l e R s m args below meth c H locs cells slots Qm (F0 m pc ls (st.map (zcv b as))) := by
  obtain ⟨hx, hb, hml, ho, hts, hX, hbl, hbA, hA, hfr, hlo⟩ := cx
  have f1 := nrl_ok hf
  rw [← hown] at f1
  unfold s_copy at e0
  split at e0
  · rename_i n dp bb sp aa r
    split at e0
    · rename_i ta fa tb fb hna hnb
      cases hb2 : (Nat.beq ta 101 && (Nat.beq tb 101 && Nat.ble (catS r) 8)) with
      | false => rw [hb2] at e0; cases e0
      | true =>
        rw [hb2] at e0
        simp only [Bool.and_eq_true] at hb2
        obtain ⟨q1, q2, q3⟩ := hb2
        have q1 := Nat.eq_of_beq_eq_true q1
        have q2 := Nat.eq_of_beq_eq_true q2
        have h8 := Nat.le_of_ble_eq_true q3
        subst q1 q2
        simp only [cond_true] at e0
        split at e0
        · cases e0
        · rename_i hneg
          cases hb3 : (Nat.ble (sp.toNatClampNeg + n.toNatClampNeg) fa.length && Nat.ble (dp.toNatClampNeg + n.toNatClampNeg) fb.length) with
          | false => rw [hb3] at e0; cases e0
          | true =>
            rw [hb3] at e0
            simp only [Bool.and_eq_true] at hb3
            have l1 := Nat.le_of_ble_eq_true hb3.1
            have l2 := Nat.le_of_ble_eq_true hb3.2
            simp only [cond_true, Option.some.injEq, Prod.mk.injEq] at e0; obtain ⟨rfl, rfl, rfl, rfl⟩ := e0
            rw [setH_eq] at kk
            obtain ⟨i, q, e1, hi, hw, hcr, hz⟩ := w.at hna (by omega)
            obtain ⟨i2, q2, e2, hi2, hw2, hcr2, hz2⟩ := w.at hnb (by omega)
            obtain ⟨cA, f, t0, he, ht0, hff⟩ := cr_j hcr
            obtain ⟨cB, g, t1, he2, ht1, hgg⟩ := cr_j hcr2
            subst he
            subst he2
            have hokfs := w.2.2.2.2.2.2.2.2 bb _ fb hnb
            have hokfa := w.2.2.2.2.2.2.2.2 aa _ fa hna
            have ho5 := (List.forall_mem_cons.mp (List.forall_mem_cons.mp (List.forall_mem_cons.mp (List.forall_mem_cons.mp (List.forall_mem_cons.mp oks).2).2).2).2).2
            simp only [List.map_cons]
            show W p l e R s m args below meth c H locs cells slots Qm (F0 m pc ls (.int n :: .int dp :: .ref (zad b as bb) :: .int sp :: .ref (zad b as aa) :: r.map (zcv b as)))
            rw [hz, hz2]
            refine va_copyl (D := D) (cl := vcl) (tys := tys) (ws := ws) (ty := .long) hx hb (hml.trans lo.1.1.symm) ho (hts _ f1) (hts _ nat_ins.2.2.1) (hts _ (nat_stOf (w := 999) (by decide))) (hts _ nat_ins.2.1) w.1 w.2.1 w.2.2.1 w.2.2.2.1 i i2 t0 t1 hw hw2 ht0 ht1 rfl (fun z => hneg (Or.inr (Or.inl z))) (fun z => hneg (Or.inr (Or.inr z))) (fun z => hneg (Or.inl z)) l1 l2 (fun k _ => rfl) hfr ?_ hdg (fun H1 locs1 hP hD hS => ?_)
            · rw [catS_cv]
              have : nativeFrameWords "java/lang/System" "arraycopy" 5 ≤ 20 := by decide
              omega
            · rw [hnx]
              refine Kn.samed kk (by rw [List.length_set]) (slt_set hnb (by rw [cpyV_len])) (w.upd hi2 hnb hw2 hP hD hS (Or.inr (Or.inr (Or.inl ⟨rfl, cB, _, t1, by rw [cpyV_len], ht1, fun j v hv => cpyV_f hff hgg _ l1 j v hv⟩))) ?_) lo okl ho5
              intro u hu
              rcases cpyV_mem _ _ _ _ _ hu with hu | hu
              · exact hokfs u hu
              · exact hokfa u hu
    · cases e0
  · cases e0
theorem sm_nat {oc idx wn : Nat} (cx : Cx p R m c s args cc nL own b Lx xs A H0) (hrc : cells ≤ R.cells ∧ slots ≤ R.slots) (hown : own = cn oc) (hf : nrl oc idx nrt = some wn) (hdg : decode cc pc = .ok (.invokestatic idx, 3)) (hnx : pc + 3 = nx) (e0 : s_nat wn nx L st h = some (pc', L', st', h1)) (w : Wd D s A H0 b Lx xs h as ws tys H locs) (lo : LO ls nL b as L) (okl : okLc h.length L) (oks : okS h.length st) (kk : Kn p l e R s m args below meth c Qm D A H0 b Lx nL xs as h.length (slt h) cells slots h1 L' st' pc') : W p l e R s m args below meth c H locs cells slots Qm (F0 m pc ls (st.map (zcv b as))) := by
  unfold s_nat at e0
  cases h9 : Nat.beq wn 999 with
  | true =>
    rw [h9] at e0
    have := Nat.eq_of_beq_eq_true h9
    subst this
    exact sm_copy cx hown hf hdg hnx e0 w lo okl oks kk
  | false =>
    rw [h9] at e0
    simp only [cond_false] at e0
    split at e0
    · rename_i y x r
      cases hb8 : Nat.ble (catS r) 8 with
      | false => rw [hb8] at e0; cases e0
      | true =>
        rw [hb8] at e0
        have h8 := Nat.le_of_ble_eq_true hb8
        have ho2 := (List.forall_mem_cons.mp (List.forall_mem_cons.mp oks).2).2
        simp only [cond_true] at e0
        cases h0 : Nat.beq wn 990 with
        | true =>
          rw [h0] at e0
          have := Nat.eq_of_beq_eq_true h0
          subst this
          simp only [cond_true, Option.some.injEq, Prod.mk.injEq] at e0; obtain ⟨rfl, rfl, rfl, rfl⟩ := e0
          exact sm_n990 cx hrc hown hf hdg hnx h8 w lo okl ho2 kk
        | false =>
          rw [h0] at e0
          simp only [cond_false] at e0
          cases h1 : Nat.beq wn 991 with
          | true =>
            rw [h1] at e0
            have := Nat.eq_of_beq_eq_true h1
            subst this
            simp only [cond_true, Option.some.injEq, Prod.mk.injEq] at e0; obtain ⟨rfl, rfl, rfl, rfl⟩ := e0
            exact sm_n991 cx hrc hown hf hdg hnx h8 w lo okl ho2 kk
          | false => rw [h1] at e0; cases e0
    · rename_i y x r
      cases hb8 : Nat.ble (catS r) 8 with
      | false => rw [hb8] at e0; cases e0
      | true =>
        rw [hb8] at e0
        have h8 := Nat.le_of_ble_eq_true hb8
        have ho1 := (List.forall_mem_cons.mp oks).2
        have ho2 := (List.forall_mem_cons.mp ho1).2
        simp only [cond_true] at e0
        cases h0 : Nat.beq wn 992 with
        | true =>
          rw [h0] at e0
          have := Nat.eq_of_beq_eq_true h0
          subst this
          simp only [cond_true, Option.some.injEq, Prod.mk.injEq] at e0; obtain ⟨rfl, rfl, rfl, rfl⟩ := e0
          exact sm_n992 cx hrc hown hf hdg hnx h8 w lo okl ho2 kk
        | false =>
          rw [h0] at e0
          simp only [cond_false] at e0
          cases h1 : Nat.beq wn 993 with
          | true =>
            rw [h1] at e0
            have := Nat.eq_of_beq_eq_true h1
            subst this
            simp only [cond_true, Option.some.injEq, Prod.mk.injEq] at e0; obtain ⟨rfl, rfl, rfl, rfl⟩ := e0
            exact sm_n993 cx hrc hown hf hdg hnx h8 w lo okl ho2 kk
          | false =>
            rw [h1] at e0
            simp only [cond_false] at e0
            cases h2 : Nat.beq wn 994 with
            | true =>
              rw [h2] at e0
              have := Nat.eq_of_beq_eq_true h2
              subst this
              simp only [cond_true, Option.some.injEq, Prod.mk.injEq] at e0; obtain ⟨rfl, rfl, rfl, rfl⟩ := e0
              exact sm_n994 cx hrc hown hf hdg hnx (r := .long x :: r) (by simp only [catS]; omega) w lo okl ho1 kk
            | false => rw [h2] at e0; cases e0
    · rename_i y r hne
      cases hb8 : (Nat.ble (catS r) 8 && Nat.beq wn 994) with
      | false => rw [hb8] at e0; cases e0
      | true =>
        rw [hb8] at e0
        simp only [Bool.and_eq_true] at hb8
        have h8 := Nat.le_of_ble_eq_true hb8.1
        have := Nat.eq_of_beq_eq_true hb8.2
        subst this
        simp only [cond_true, Option.some.injEq, Prod.mk.injEq] at e0; obtain ⟨rfl, rfl, rfl, rfl⟩ := e0
        exact sm_n994 cx hrc hown hf hdg hnx (by omega) w lo okl (List.forall_mem_cons.mp oks).2 kk
    · cases e0
end SIM5
