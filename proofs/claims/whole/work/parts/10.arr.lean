/-! steps over rows of numbers, new cells, the machine's own methods -/
section SIM3
variable {p : Program} {l : Launch} {e : Env} {R : Room} {s : State} {m : MethodId} {args : Array Value} {below : List Frame} {meth : Method} {c : Code} {Qm : State → Prop} {D : va_G} {A : Nat → Prop} {H0 : Heap} {b Lx nL : Nat} {xs : Nat → Int32} {own : String} {cc : ByteArray}
variable {as : List Nat} {ws : va_W} {tys : List (ClassId × FieldType)} {H : Heap} {locs : List Loc} {cells slots : Nat} {ls : Array Slot} {L L' : Lc} {st st' : List Value} {h h1 : Hp} {pc pc' nx : Nat}
theorem ix_in {x : Int32} {n j : Nat} (h : ix x n = some j) : vp_in x n ∧ x.toNatClampNeg = j ∧ j < n := by
  unfold ix at h
  split at h
  · cases h
  · rename_i h1
    split at h
    · rename_i h2
      simp only [Option.some.injEq] at h
      subst h
      exact ⟨fun z => z.elim h1 (fun z => absurd h2 (Nat.not_lt.mpr z)), rfl, h2⟩
    · cases h
theorem zcv_rf {v : Value} {r : Option Nat} (h : zcv b as v = va_rf r) : (v = .null ∧ r = none) ∨ ∃ i, v = .ref i ∧ r = some (zad b as i) := by
  cases r with
  | none => cases v <;> simp [zcv, va_rf] at h <;> exact Or.inl ⟨rfl, rfl⟩
  | some a => cases v <;> simp [zcv, va_rf] at h <;> exact Or.inr ⟨_, rfl, by rw [h]⟩
theorem sm_iald (cx : Cx p R m c s args cc nL own b Lx xs A H0) (hdg : decode cc pc = .ok (.iaload, 1)) (hnx : pc + 1 = nx) (e0 : s_ald [100, 103] nx L st h = some (pc', L', st', h1)) (w : Wd D s A H0 b Lx xs h as ws tys H locs) (lo : LO ls nL b as L) (okl : okLc h.length L) (oks : okS h.length st) (kk : Kn p l e R s m args below meth c Qm D A H0 b Lx nL xs as h.length (slt h) cells slots h1 L' st' pc') : W p l e R s m args below meth c H locs cells slots Qm (F0 m pc ls (st.map (zcv b as))) := by
  obtain ⟨hx, hb, hml, ho, hts, hX, hbl, hbA, hA, -⟩ := cx
  unfold s_ald at e0
  split at e0
  · rename_i x a r
    split at e0
    · rename_i t fs hn
      cases hb2 : ([100, 103] : List Nat).any (fun q => Nat.beq t q) with
      | false => rw [hb2] at e0; cases e0
      | true =>
        rw [hb2] at e0
        simp only [List.any_cons, List.any_nil, Bool.or_eq_true, Bool.or_false] at hb2
        simp only [cond_true] at e0
        split at e0
        · rename_i j hj
          split at e0
          · rename_i v hv
            simp only [Option.some.injEq, Prod.mk.injEq] at e0; obtain ⟨rfl, rfl, rfl, rfl⟩ := e0
            obtain ⟨i1, i2, i3⟩ := ix_in hj
            have hmem : v ∈ fs := List.mem_of_getElem? (by rw [← nth_eq]; exact hv)
            have hokv : okV h.length v := w.2.2.2.2.2.2.2.2 a t fs hn v hmem
            have KK := Kn.same kk w lo okl (List.forall_mem_cons.mpr ⟨hokv, (List.forall_mem_cons.mp (List.forall_mem_cons.mp oks).2).2⟩)
            rw [List.map_cons] at KK ⊢
            rw [List.map_cons]
            show W p l e R s m args below meth c H locs cells slots Qm (F0 m pc ls (.int x :: .ref (zad b as a) :: r.map (zcv b as)))
            rcases hb2 with hb2 | hb2
            · have := Nat.eq_of_beq_eq_true hb2
              subst this
              obtain ⟨i, q, e1, hi, hw, hcr, hz⟩ := w.at hn (by omega)
              obtain ⟨cA, f, t0, he, ht0, hf⟩ := cr_i hcr
              subst he
              rw [hz]
              have := hf j v hv
              subst this
              refine va_iald (D := D) (cl := vcl) (tys := tys) (ws := ws) hx hb w.1 w.2.1 i t0 hw ht0 i1 hdg ?_
              rw [hnx, i2]
              exact KK
            · have := Nat.eq_of_beq_eq_true hb2
              subst this
              cases a with
              | succ k =>
                obtain ⟨q, e1, -, hcr⟩ := w.2.2.2.2.2.2.2.1 k 103 fs hn
                rcases hcr with ⟨z, -⟩ | ⟨z, -⟩ | ⟨z, -⟩ | ⟨z, -⟩ <;> (exfalso; omega)
              | zero =>
                have h0 := w.2.2.2.2.2.2.1
                rw [h0] at hn
                simp only [Option.some.injEq, Prod.mk.injEq, true_and] at hn
                subst hn
                have hjL : j < Lx := by simpa [scrV] using i3
                have hvx : v = .int (xs j) := by
                  rw [nth_eq] at hv
                  simp only [scrV, List.getElem?_map, List.getElem?_range hjL, Option.map_some, Option.some.injEq] at hv
                  exact hv.symm
                subst hvx
                refine va_sld hx hb hX hbl hbA w.2.2.2.1 (i := x) ?_ hdg ?_
                · have := i1
                  simpa [scrV] using this
                · rw [hnx, i2]
                  exact KK
          · cases e0
        · cases e0
    · cases e0
  · cases e0
theorem sm_lald (cx : Cx p R m c s args cc nL own b Lx xs A H0) (hdg : decode cc pc = .ok (.laload, 1)) (hnx : pc + 1 = nx) (e0 : s_ald [101] nx L st h = some (pc', L', st', h1)) (w : Wd D s A H0 b Lx xs h as ws tys H locs) (lo : LO ls nL b as L) (okl : okLc h.length L) (oks : okS h.length st) (kk : Kn p l e R s m args below meth c Qm D A H0 b Lx nL xs as h.length (slt h) cells slots h1 L' st' pc') : W p l e R s m args below meth c H locs cells slots Qm (F0 m pc ls (st.map (zcv b as))) := by
  obtain ⟨hx, hb, hml, ho, hts, hX, hbl, hbA, hA, -⟩ := cx
  unfold s_ald at e0
  split at e0
  · rename_i x a r
    split at e0
    · rename_i t fs hn
      cases hb2 : ([101] : List Nat).any (fun q => Nat.beq t q) with
      | false => rw [hb2] at e0; cases e0
      | true =>
        rw [hb2] at e0
        simp only [List.any_cons, List.any_nil, Bool.or_eq_true, Bool.or_false] at hb2
        simp only [cond_true] at e0
        split at e0
        · rename_i j hj
          split at e0
          · rename_i v hv
            simp only [Option.some.injEq, Prod.mk.injEq] at e0; obtain ⟨rfl, rfl, rfl, rfl⟩ := e0
            obtain ⟨i1, i2, i3⟩ := ix_in hj
            have hmem : v ∈ fs := List.mem_of_getElem? (by rw [← nth_eq]; exact hv)
            have hokv : okV h.length v := w.2.2.2.2.2.2.2.2 a t fs hn v hmem
            have KK := Kn.same kk w lo okl (List.forall_mem_cons.mpr ⟨hokv, (List.forall_mem_cons.mp (List.forall_mem_cons.mp oks).2).2⟩)
            rw [List.map_cons] at KK ⊢
            rw [List.map_cons]
            show W p l e R s m args below meth c H locs cells slots Qm (F0 m pc ls (.int x :: .ref (zad b as a) :: r.map (zcv b as)))
            have := Nat.eq_of_beq_eq_true hb2
            subst this
            obtain ⟨i, q, e1, hi, hw, hcr, hz⟩ := w.at hn (by omega)
            obtain ⟨cA, f, t0, he, ht0, hf⟩ := cr_j hcr
            subst he
            rw [hz]
            have := hf j v hv
            subst this
            refine va_lald (D := D) (cl := vcl) (tys := tys) (ws := ws) hx hb w.1 w.2.1 i t0 hw ht0 i1 hdg ?_
            rw [hnx, i2]
            exact KK
          · cases e0
        · cases e0
    · cases e0
  · cases e0
theorem sm_aald (cx : Cx p R m c s args cc nL own b Lx xs A H0) (hdg : decode cc pc = .ok (.aaload, 1)) (hnx : pc + 1 = nx) (e0 : s_ald [102] nx L st h = some (pc', L', st', h1)) (w : Wd D s A H0 b Lx xs h as ws tys H locs) (lo : LO ls nL b as L) (okl : okLc h.length L) (oks : okS h.length st) (kk : Kn p l e R s m args below meth c Qm D A H0 b Lx nL xs as h.length (slt h) cells slots h1 L' st' pc') : W p l e R s m args below meth c H locs cells slots Qm (F0 m pc ls (st.map (zcv b as))) := by
  obtain ⟨hx, hb, hml, ho, hts, hX, hbl, hbA, hA, -⟩ := cx
  unfold s_ald at e0
  split at e0
  · rename_i x a r
    split at e0
    · rename_i t fs hn
      cases hb2 : ([102] : List Nat).any (fun q => Nat.beq t q) with
      | false => rw [hb2] at e0; cases e0
      | true =>
        rw [hb2] at e0
        simp only [List.any_cons, List.any_nil, Bool.or_eq_true, Bool.or_false] at hb2
        simp only [cond_true] at e0
        split at e0
        · rename_i j hj
          split at e0
          · rename_i v hv
            simp only [Option.some.injEq, Prod.mk.injEq] at e0; obtain ⟨rfl, rfl, rfl, rfl⟩ := e0
            obtain ⟨i1, i2, i3⟩ := ix_in hj
            have hmem : v ∈ fs := List.mem_of_getElem? (by rw [← nth_eq]; exact hv)
            have hokv : okV h.length v := w.2.2.2.2.2.2.2.2 a t fs hn v hmem
            have KK := Kn.same kk w lo okl (List.forall_mem_cons.mpr ⟨hokv, (List.forall_mem_cons.mp (List.forall_mem_cons.mp oks).2).2⟩)
            rw [List.map_cons] at KK ⊢
            rw [List.map_cons]
            show W p l e R s m args below meth c H locs cells slots Qm (F0 m pc ls (.int x :: .ref (zad b as a) :: r.map (zcv b as)))
            have := Nat.eq_of_beq_eq_true hb2
            subst this
            obtain ⟨i, q, e1, hi, hw, hcr, hz⟩ := w.at hn (by omega)
            obtain ⟨cA, f, t0, he, ht0, hf⟩ := cr_q hcr
            subst he
            rw [hz]
            have hv2 := hf j v hv
            refine va_aldq (D := D) (cl := vcl) (tys := tys) (ws := ws) hx hb w.1 w.2.1 i t0 hw ht0 i1 hdg ?_
            rw [hnx, i2, ← hv2]
            exact KK
          · cases e0
        · cases e0
    · cases e0
  · cases e0
theorem sm_iast (cx : Cx p R m c s args cc nL own b Lx xs A H0) (hdg : decode cc pc = .ok (.iastore, 1)) (hnx : pc + 1 = nx) (e0 : s_ast 100 isI nx L st h = some (pc', L', st', h1)) (w : Wd D s A H0 b Lx xs h as ws tys H locs) (lo : LO ls nL b as L) (okl : okLc h.length L) (oks : okS h.length st) (kk : Kn p l e R s m args below meth c Qm D A H0 b Lx nL xs as h.length (slt h) cells slots h1 L' st' pc') : W p l e R s m args below meth c H locs cells slots Qm (F0 m pc ls (st.map (zcv b as))) := by
  obtain ⟨hx, hb, hml, ho, hts, hX, hbl, hbA, hA, -⟩ := cx
  unfold s_ast at e0
  split at e0
  · rename_i v x a r
    split at e0
    · rename_i t fs hn
      cases hb2 : (Nat.beq t 100 && isI h v) with
      | false => rw [hb2] at e0; cases e0
      | true =>
        rw [hb2] at e0
        simp only [Bool.and_eq_true] at hb2
        obtain ⟨hbt, hokv⟩ := hb2
        have := Nat.eq_of_beq_eq_true hbt
        subst this
        simp only [cond_true] at e0
        split at e0
        · rename_i j hj
          simp only [Option.some.injEq, Prod.mk.injEq] at e0; obtain ⟨rfl, rfl, rfl, rfl⟩ := e0
          rw [setV_eq, setH_eq] at kk
          obtain ⟨i1, i2, i3⟩ := ix_in hj
          obtain ⟨i, q, e1, hi, hw, hcr, hz⟩ := w.at hn (by omega)
          have hokfs := w.2.2.2.2.2.2.2.2 a _ fs hn
          have ho2 := List.forall_mem_cons.mp oks
          have hokset : okS h.length (fs.set j v) := by
            intro u hu
            rcases List.mem_or_eq_of_mem_set hu with hu | rfl
            · exact hokfs u hu
            · exact ho2.1
          rw [List.map_cons, List.map_cons, List.map_cons]
          show W p l e R s m args below meth c H locs cells slots Qm (F0 m pc ls (zcv b as v :: .int x :: .ref (zad b as a) :: r.map (zcv b as)))
          rw [hz]
          obtain ⟨cA, f, t0, he, ht0, hf⟩ := cr_i hcr
          subst he
          cases v <;> first | (exfalso; revert hokv; simp [isI]; done) | skip
          rename_i y
          refine va_iast (D := D) (cl := vcl) (tys := tys) (ws := ws) hx hb w.1 w.2.1 w.2.2.1 w.2.2.2.1 i t0 hw ht0 i1 hdg (fun H1 locs1 hP hD hS => ?_)
          rw [hnx]
          rw [i2] at hP hD
          refine Kn.samed kk (by rw [List.length_set]) (slt_set hn (by rw [List.length_set])) (w.upd hi hn hw hP hD hS (Or.inr (Or.inl ⟨rfl, cA, upd f j y, t0, by rw [List.length_set], ht0, ?_⟩)) hokset) lo okl (List.forall_mem_cons.mp (List.forall_mem_cons.mp ho2.2).2).2
          intro k u hu
          rw [nth_eq, List.getElem?_set] at hu
          split at hu
          · rename_i z
            subst z
            simp only [i3, ↓reduceIte, Option.some.injEq] at hu
            subst hu
            simp [upd]
          · rename_i z
            rw [← nth_eq] at hu
            have := hf k u hu
            rw [this]
            simp [upd, Ne.symm z]
        · cases e0
    · cases e0
  · cases e0
theorem sm_last (cx : Cx p R m c s args cc nL own b Lx xs A H0) (hdg : decode cc pc = .ok (.lastore, 1)) (hnx : pc + 1 = nx) (e0 : s_ast 101 isJ nx L st h = some (pc', L', st', h1)) (w : Wd D s A H0 b Lx xs h as ws tys H locs) (lo : LO ls nL b as L) (okl : okLc h.length L) (oks : okS h.length st) (kk : Kn p l e R s m args below meth c Qm D A H0 b Lx nL xs as h.length (slt h) cells slots h1 L' st' pc') : W p l e R s m args below meth c H locs cells slots Qm (F0 m pc ls (st.map (zcv b as))) := by
  obtain ⟨hx, hb, hml, ho, hts, hX, hbl, hbA, hA, -⟩ := cx
  unfold s_ast at e0
  split at e0
  · rename_i v x a r
    split at e0
    · rename_i t fs hn
      cases hb2 : (Nat.beq t 101 && isJ h v) with
      | false => rw [hb2] at e0; cases e0
      | true =>
        rw [hb2] at e0
        simp only [Bool.and_eq_true] at hb2
        obtain ⟨hbt, hokv⟩ := hb2
        have := Nat.eq_of_beq_eq_true hbt
        subst this
        simp only [cond_true] at e0
        split at e0
        · rename_i j hj
          simp only [Option.some.injEq, Prod.mk.injEq] at e0; obtain ⟨rfl, rfl, rfl, rfl⟩ := e0
          rw [setV_eq, setH_eq] at kk
          obtain ⟨i1, i2, i3⟩ := ix_in hj
          obtain ⟨i, q, e1, hi, hw, hcr, hz⟩ := w.at hn (by omega)
          have hokfs := w.2.2.2.2.2.2.2.2 a _ fs hn
          have ho2 := List.forall_mem_cons.mp oks
          have hokset : okS h.length (fs.set j v) := by
            intro u hu
            rcases List.mem_or_eq_of_mem_set hu with hu | rfl
            · exact hokfs u hu
            · exact ho2.1
          rw [List.map_cons, List.map_cons, List.map_cons]
          show W p l e R s m args below meth c H locs cells slots Qm (F0 m pc ls (zcv b as v :: .int x :: .ref (zad b as a) :: r.map (zcv b as)))
          rw [hz]
          obtain ⟨cA, f, t0, he, ht0, hf⟩ := cr_j hcr
          subst he
          cases v <;> first | (exfalso; revert hokv; simp [isJ]; done) | skip
          rename_i y
          refine va_last (D := D) (cl := vcl) (tys := tys) (ws := ws) hx hb w.1 w.2.1 w.2.2.1 w.2.2.2.1 i t0 hw ht0 i1 hdg (fun H1 locs1 hP hD hS => ?_)
          rw [hnx]
          rw [i2] at hP hD
          refine Kn.samed kk (by rw [List.length_set]) (slt_set hn (by rw [List.length_set])) (w.upd hi hn hw hP hD hS (Or.inr (Or.inr (Or.inl ⟨rfl, cA, vp_updL f j y, t0, by rw [List.length_set], ht0, ?_⟩))) hokset) lo okl (List.forall_mem_cons.mp (List.forall_mem_cons.mp ho2.2).2).2
          intro k u hu
          rw [nth_eq, List.getElem?_set] at hu
          split at hu
          · rename_i z
            subst z
            simp only [i3, ↓reduceIte, Option.some.injEq] at hu
            subst hu
            simp [vp_updL]
          · rename_i z
            rw [← nth_eq] at hu
            have := hf k u hu
            rw [this]
            simp [vp_updL, Ne.symm z]
        · cases e0
    · cases e0
  · cases e0
theorem sm_aast (cx : Cx p R m c s args cc nL own b Lx xs A H0) (hdg : decode cc pc = .ok (.aastore, 1)) (hnx : pc + 1 = nx) (e0 : s_ast 102 isTape nx L st h = some (pc', L', st', h1)) (w : Wd D s A H0 b Lx xs h as ws tys H locs) (lo : LO ls nL b as L) (okl : okLc h.length L) (oks : okS h.length st) (kk : Kn p l e R s m args below meth c Qm D A H0 b Lx nL xs as h.length (slt h) cells slots h1 L' st' pc') : W p l e R s m args below meth c H locs cells slots Qm (F0 m pc ls (st.map (zcv b as))) := by
  obtain ⟨hx, hb, hml, ho, hts, hX, hbl, hbA, hA, -⟩ := cx
  unfold s_ast at e0
  split at e0
  · rename_i v x a r
    split at e0
    · rename_i t fs hn
      cases hb2 : (Nat.beq t 102 && isTape h v) with
      | false => rw [hb2] at e0; cases e0
      | true =>
        rw [hb2] at e0
        simp only [Bool.and_eq_true] at hb2
        obtain ⟨hbt, hokv⟩ := hb2
        have := Nat.eq_of_beq_eq_true hbt
        subst this
        simp only [cond_true] at e0
        split at e0
        · rename_i j hj
          simp only [Option.some.injEq, Prod.mk.injEq] at e0; obtain ⟨rfl, rfl, rfl, rfl⟩ := e0
          rw [setV_eq, setH_eq] at kk
          obtain ⟨i1, i2, i3⟩ := ix_in hj
          obtain ⟨i, q, e1, hi, hw, hcr, hz⟩ := w.at hn (by omega)
          have hokfs := w.2.2.2.2.2.2.2.2 a _ fs hn
          have ho2 := List.forall_mem_cons.mp oks
          have hokset : okS h.length (fs.set j v) := by
            intro u hu
            rcases List.mem_or_eq_of_mem_set hu with hu | rfl
            · exact hokfs u hu
            · exact ho2.1
          rw [List.map_cons, List.map_cons, List.map_cons]
          show W p l e R s m args below meth c H locs cells slots Qm (F0 m pc ls (zcv b as v :: .int x :: .ref (zad b as a) :: r.map (zcv b as)))
          rw [hz]
          obtain ⟨cA, f, t0, he, ht0, hf⟩ := cr_q hcr
          subst he
          cases v <;> first | (exfalso; revert hokv; simp [isTape]; done) | skip
          rename_i y
          unfold isTape at hokv
          simp only at hokv
          split at hokv
          · rename_i t2 fs2 hn2
            have := Nat.eq_of_beq_eq_true hokv
            subst this
            obtain ⟨i9, q9, e9, hi9, hw9, hcr9, hz9⟩ := w.at hn2 (by omega)
            have he9 := cr_8 hcr9 (by omega)
            subst he9
            show W p l e R s m args below meth c H locs cells slots Qm (F0 m pc ls (.ref (zad b as y) :: .int x :: .ref q :: r.map (zcv b as)))
            rw [hz9]
            refine va_astq (D := D) (cl := vcl) (tys := tys) (ws := ws) (r := (RX4, TX4, 3)) hx hb w.1 w.2.1 w.2.2.1 w.2.2.2.1 i t0 i9 4 hw ht0 hw9 rfl i1 hdg (fun H1 locs1 hP hD hS => ?_)
            rw [hnx]
            rw [i2] at hP hD
            refine Kn.samed kk (by rw [List.length_set]) (slt_set hn (by rw [List.length_set])) (w.upd hi hn hw hP hD hS (Or.inr (Or.inr (Or.inr ⟨rfl, cA, va_up f j (some q9), t0, by rw [List.length_set], ht0, ?_⟩))) hokset) lo okl (List.forall_mem_cons.mp (List.forall_mem_cons.mp ho2.2).2).2
            intro k u hu
            rw [nth_eq, List.getElem?_set] at hu
            split at hu
            · rename_i z
              subst z
              simp only [i3, ↓reduceIte, Option.some.injEq] at hu
              subst hu
              show Value.ref (zad b as y) = _
              rw [hz9]
              simp [va_up, va_rf]
            · rename_i z
              rw [← nth_eq] at hu
              have := hf k u hu
              rw [this]
              simp [va_up, Ne.symm z]
          · cases hokv
        · cases e0
    · cases e0
  · cases e0
theorem sm_len (cx : Cx p R m c s args cc nL own b Lx xs A H0) (hdg : decode cc pc = .ok (.arraylength, 1)) (hnx : pc + 1 = nx) (e0 : s_len nx L st h = some (pc', L', st', h1)) (w : Wd D s A H0 b Lx xs h as ws tys H locs) (lo : LO ls nL b as L) (okl : okLc h.length L) (oks : okS h.length st) (kk : Kn p l e R s m args below meth c Qm D A H0 b Lx nL xs as h.length (slt h) cells slots h1 L' st' pc') : W p l e R s m args below meth c H locs cells slots Qm (F0 m pc ls (st.map (zcv b as))) := by
  obtain ⟨hx, hb, hml, ho, hts, hX, hbl, hbA, hA, -⟩ := cx
  unfold s_len at e0
  split at e0
  · rename_i a r
    split at e0
    · rename_i t fs hn
      cases hb2 : Nat.ble 100 t with
      | false => rw [hb2] at e0; cases e0
      | true =>
        rw [hb2] at e0
        have ht := Nat.le_of_ble_eq_true hb2
        simp only [cond_true, Option.some.injEq, Prod.mk.injEq] at e0; obtain ⟨rfl, rfl, rfl, rfl⟩ := e0
        have KK := Kn.same kk w lo okl (List.forall_mem_cons.mpr ⟨trivial, (List.forall_mem_cons.mp oks).2⟩)
        rw [List.map_cons] at KK ⊢
        show W p l e R s m args below meth c H locs cells slots Qm (F0 m pc ls (.ref (zad b as a) :: r.map (zcv b as)))
        by_cases h103 : t = 103
        · subst h103
          cases a with
          | succ k =>
            obtain ⟨q, e1, -, hcr⟩ := w.2.2.2.2.2.2.2.1 k 103 fs hn
            rcases hcr with ⟨z, -⟩ | ⟨z, -⟩ | ⟨z, -⟩ | ⟨z, -⟩ <;> (exfalso; omega)
          | zero =>
            have h0 := w.2.2.2.2.2.2.1
            rw [h0] at hn
            simp only [Option.some.injEq, Prod.mk.injEq, true_and] at hn
            subst hn
            refine va_slen hx hb hX hbl hbA w.2.2.2.1 hdg ?_
            rw [hnx]
            have hl : (scrV Lx xs).length = Lx := by simp [scrV]
            rw [hl] at KK
            exact KK
        · obtain ⟨i, q, e1, hi, hw, hcr, hz⟩ := w.at hn h103
          rw [hz]
          rcases hcr with ⟨z, -⟩ | ⟨rfl, cA, f, t0, he, ht0, -⟩ | ⟨rfl, cA, f, t0, he, ht0, -⟩ | ⟨rfl, cA, f, t0, he, ht0, -⟩
          · exfalso; omega
          all_goals
            subst he
            exact va_alen (D := D) (cl := vcl) (tys := tys) (ws := ws) hx hb w.1 w.2.1 i t0 hw ht0 rfl hdg (by rw [hnx]; exact KK)
    · cases e0
  · cases e0
end SIM3
