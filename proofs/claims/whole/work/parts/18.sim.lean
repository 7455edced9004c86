/-! every run that ends is a run of the machine -/
theorem argN_sig {y : MethodName} {n : Nat} (h : argN y = some n) : ∀ sig, parseMethodDescriptor y.desc = some sig → n = sig.parameters.length := by
  intro sig hs
  unfold argN at h
  rw [hs] at h
  exact (Option.some.inj h).symm
set_option maxHeartbeats 4000000 in
/-- a call, of any of the three kinds, is a run of the machine's that ends as the callee's contract says -/
theorem call_run {l : Launch} {k : Nat} (IH : SimK l k) {d u pc nx : Nat} {L L' : Lc} {st rest av : List Value} {h h1 : Hp} {v : Option Value} {ins : Jvm.ClassFile.Instr} {aux oc : Nat} {neg ini : Bool} {zr : Nat} {sw : List (Nat × Nat)} {bb : ByteArray} {mx : Nat} {own : String}
    {p : Program} {e : Env} {R : Room} {s : State} {m : MethodId} {args : Array Value} {below : List Frame} {meth : Method} {c : Code} {D : va_G} {A : Nat → Prop} {H0 : Heap} {b Lx : Nat} {xs : Nat → Int32} {as : List Nat} {ws : va_W} {tys : List (ClassId × FieldType)} {H : Heap} {locs : List Loc} {cells slots : Nat} {ls : Array Slot}
    (hrow : rowOk oc ini zr bb (pc, ins, nx, aux, neg, sw) = true) (hoc : cn oc = own) (hk : kindI (ins, nx, aux, neg, sw) = 1) (hz : zcall (ins, nx, aux, neg, sw) st h = some (av, rest)) (hent : entL aux av = some L') (hrun : zrun k d aux 0 L' [] h = some (v, h1))
    (cx : Cx p R m c s args bb mx own b Lx xs A H0) (hfr : d + 2 ≤ R.frames) (hlo : LK * (d + 2) ≤ R.locals) (hc1 : cells + (h1.length - h.length) ≤ R.cells) (hc2 : slots + (slt h1 - slt h) ≤ R.slots) (w : Wd D s A H0 b Lx xs h as ws tys H locs) (lo : LO ls mx b as L) (oks : okS h.length st) :
    nx = pc + 3 ∧ okS h.length rest ∧ va_Run p l e R s m args below meth c H locs cells slots (h1.length - h.length) (slt h1 - slt h) (F0 m pc ls (st.map (zcv b as))) (rest.map (zcv b as)) (zQc D b Lx xs as ws H.size v h1 (av.map (zcv b as)).toArray) (va_A ws H.size) := by
  obtain ⟨hx, hb, hml, ho, hts, hX, hbl, hbA, hA, -⟩ := cx
  obtain ⟨wK, wP, wD, wS, pw⟩ := w
  have hXh : va_X b Lx xs s H := hX.kept (wS.2.1 b hbl hbA)
  have hbH : b < H.size := Nat.lt_of_lt_of_le hbl wS.1
  have hbw : ∀ (k : Nat) (e : va_E), ws[k]? ≠ some (b, e) := fun k e hk => hbA (wD.2 k _ hk)
  unfold zcall at hz
  simp only at hz
  cases hm : mi aux with
  | none => rw [hm] at hz; cases hz
  | some q =>
    obtain ⟨n, mx', tg⟩ := q
    rw [hm] at hz
    simp only at hz
    cases hp : popN n st [] with
    | none => rw [hp] at hz; cases hz
    | some q =>
      obtain ⟨av', rest'⟩ := q
      rw [hp] at hz
      simp only [cond_eq_ite] at hz
      split at hz
      case isFalse => cases hz
      case isTrue hrv =>
      simp only [Option.some.injEq, Prod.mk.injEq] at hz
      obtain ⟨rfl, rfl⟩ := hz
      simp only [Bool.and_eq_true] at hrv
      obtain ⟨hrecv, h8⟩ := hrv
      have h8 := Nat.le_of_ble_eq_true h8
      obtain ⟨P, hPl, hst, hav⟩ := popN_eq _ _ _ _ _ hp
      rw [List.append_nil] at hav
      have hokP : okS h.length P := fun x hx => oks x (by rw [hst]; exact List.mem_append_left _ hx)
      have hokr : okS h.length rest' := fun x hx => oks x (by rw [hst]; exact List.mem_append_right _ hx)
      have hoka : okS h.length av' := fun x hx => hokP x (by rw [hav] at hx; exact List.mem_reverse.mp hx)
      have hlen : av'.length = n := by rw [hav, List.length_reverse, hPl]
      have hst2 : st = av'.reverse ++ rest' := by rw [hav, List.reverse_reverse]; exact hst
      have hstm : st.map (zcv b as) = (av'.map (zcv b as)).reverse ++ rest'.map (zcv b as) := by rw [hst2, List.map_append, List.map_reverse]
      have h8' : 2 * (F0 m pc ls (st.map (zcv b as))).monitorRoom + ((rest'.map (zcv b as)).map fun v => v.category).sum ≤ 8 := by
        show 2 * 0 + _ ≤ 8
        rw [catS_cv]; omega
      have hpre : ∀ U : State, U.heap = H → s.WarmedH U.vm → zPc D b Lx xs as ws tys H.size (av'.map (zcv b as)) (av'.map (zcv b as)).toArray U := fun U hU hW => ⟨rfl, by rw [hU], by rw [hU]; exact wP, va_K.moved hW.alike wK, wD.weaken (fun _ _ _ _ => trivial), by rw [hU]; exact hXh.moved hW.alike, (XW.of hts).warm hW⟩
      unfold rowOk at hrow
      simp only at hrow
      split at hrow
      case h_2 => cases hrow
      case h_1 i len hdg =>
      simp only [Bool.and_eq_true, decide_eq_true_eq] at hrow
      obtain ⟨rfl, hnx, hop⟩ := hrow
      have hnx := Nat.eq_of_beq_eq_true hnx
      have hrm : d + 1 + 1 ≤ R.frames := hfr
      have body : ∀ (y : MethodName) (bb2 : ByteArray) (mx2 kd : Nat) (r : Option FieldType) (z : Nat × Nat × Nat × Nat), sg aux = some (y, bb2, mx2, r, kd, z) → kd ≤ 2 → aux < 214 → mx2 ≤ 12 ∧ Met l y (Cond.code y bb2 mx2 r :: gt) { frames := d + 1, cells := h1.length - h.length, slots := slt h1 - slt h, locals := LK * (d + 1) } (zPc D b Lx xs as ws tys H.size (av'.map (zcv b as))) (zQc D b Lx xs as ws H.size v h1) (h1.length - h.length) (slt h1 - slt h) (va_A ws H.size) ∧ (∀ w ∈ (Cond.code y bb2 mx2 r :: gt), ∀ (a' : Array Value) (U : State), s.WarmedH U.vm → w.before a' U = true) ∧ (Cond.code y bb2 mx2 r).before args s = true := by
        intro y bb2 mx2 kd r z hs hkd hlt
        obtain ⟨pc0, pi, ps, pn⟩ := z
        obtain ⟨n2, tg2, hmi, hmx, -⟩ := sg_spec hlt hs
        have hcode := sg_code hs hkd
        exact ⟨hmx, met_of IH hrun hlt hs hkd hent pw hoka hbw hbH, pay_in hts (gt_good hcode rfl (fun _ h => h)), hts _ hcode⟩
      have hlk : ∀ mx2, mx2 ≤ 12 → 8 + (mx2 + 11) + LK * (d + 1) ≤ R.locals := fun mx2 hm2 => by
        have : LK * (d + 2) = LK * (d + 1) + 40 := by show 40 * (d + 2) = 40 * (d + 1) + 40; omega
        omega
      cases i <;> first | (exfalso; revert hk; simp [kindI]; done) | skip
      case invokespecial idx =>
        have hne : ¬ aux = 998 := by
          intro h9
          subst h9
          exact absurd hk (by simp [kindI])
        simp only [opOk, Bool.and_eq_true, Bool.or_eq_true, decide_eq_true_eq] at hop
        have hl := Nat.eq_of_beq_eq_true hop.1
        subst hl
        rcases hop.2 with ⟨-, hq⟩ | ⟨hlk2, hsg⟩
        · exact absurd (Nat.eq_of_beq_eq_true hq) hne
        refine ⟨hnx.symm, hokr, ?_⟩
        have hlt : aux < 214 := hlk2.elim mrl_lt mrl_lt
        cases hs : sg aux with
        | none => rw [hs] at hsg; cases hsg
        | some q =>
          obtain ⟨y, bb2, mx2, r, kd, pc0, pi, ps, pn⟩ := q
          rw [hs] at hsg
          have hkd := Nat.eq_of_beq_eq_true hsg
          simp only at hkd
          subst hkd
          obtain ⟨n2, tg2, hmi, hmx, hn1, hn2, -, -, -, h2⟩ := sg_spec hlt hs
          obtain ⟨s1, s2, s3, s4, s5, s6, c0, s7, s8, s9⟩ := h2 rfl
          subst s4
          rw [hm] at hmi
          simp only [Option.some.injEq, Prod.mk.injEq] at hmi
          obtain ⟨rfl, rfl, rfl⟩ := hmi
          obtain ⟨g1, hM, hpay, hcd⟩ := body y bb2 _ _ _ _ hs (Nat.le_refl _) hlt
          have hy : yof aux = y := by unfold yof; rw [hs]
          unfold recvOk at hrecv
          subst s7
          simp only at hrecv
          split at hrecv
          case h_2 => cases hrecv
          case h_1 x as1 =>
          have hn' : as1.length = n - 1 := by rw [← hlen]; rfl
          rw [hstm]
          rcases hlk2 with hq | hq
          · have hq2 := mrl_ok hq
            simp only [Bool.false_eq_true, ↓reduceIte] at hq2
            rw [hy, hoc] at hq2
            exact va_runI (As := as1.map (zcv b as)) (b := zad b as x) (n := n - 1) ⟨hx, hb, hml, ho, hts⟩ hM ⟨⟨rfl, rfl, hrm, hlk _ g1, hpay, List.mem_cons_self, hcd, hts _ s1, ⟨hn1, hn2⟩, argN_sig s5, hts _ hq2⟩, s3, hts _ s2⟩ ⟨zPc_blind, hpre⟩ rfl (by rw [List.length_map]; exact hn') lo.1.1 (by simp [zcv]) (by rw [← hstm]; exact h8') hdg ⟨hc1, hc2⟩
          · have hq2 := mrl_ok hq
            simp only [↓reduceIte] at hq2
            rw [hy, hoc] at hq2
            exact va_runIN (As := as1.map (zcv b as)) (b := zad b as x) (n := n - 1) ⟨hx, hb, hml, ho, hts⟩ hM ⟨⟨⟨rfl, rfl, hrm, hlk _ g1, hpay, List.mem_cons_self⟩, hcd, hts _ s1, ⟨hn1, hn2⟩, argN_sig s5, hts _ hq2⟩, s3, hts _ s2⟩ ⟨zPc_blind, hpre⟩ rfl (by rw [List.length_map]; exact hn') lo.1.1 (by simp [zcv]) (by rw [← hstm]; exact h8') hdg ⟨hc1, hc2⟩
      case invokestatic idx =>
        have hne : ¬ 990 ≤ aux := by
          intro h9
          unfold kindI at hk
          simp only at hk
          rw [Nat.ble_eq_true_of_le h9] at hk
          cases hk
        simp only [opOk, Bool.and_eq_true, Bool.or_eq_true, decide_eq_true_eq] at hop
        have hl := Nat.eq_of_beq_eq_true hop.1
        subst hl
        rcases hop.2 with ⟨⟨-, hq⟩, -⟩ | ⟨hlk2, hsg⟩
        · exact absurd (Nat.le_of_ble_eq_true hq) hne
        refine ⟨hnx.symm, hokr, ?_⟩
        have hlt : aux < 214 := hlk2.elim mrl_lt mrl_lt
        cases hs : sg aux with
        | none => rw [hs] at hsg; cases hsg
        | some q =>
          obtain ⟨y, bb2, mx2, r, kd, pc0, pi, ps, pn⟩ := q
          rw [hs] at hsg
          have hkd := Nat.eq_of_beq_eq_true hsg
          simp only at hkd
          subst hkd
          obtain ⟨n2, tg2, hmi, hmx, hn1, hn2, -, h0, -⟩ := sg_spec hlt hs
          obtain ⟨s1, s2, s5, s7⟩ := h0 rfl
          rw [hm] at hmi
          simp only [Option.some.injEq, Prod.mk.injEq] at hmi
          obtain ⟨rfl, rfl, rfl⟩ := hmi
          obtain ⟨g1, hM, hpay, hcd⟩ := body y bb2 _ _ _ _ hs (Nat.zero_le _) hlt
          have hy : yof aux = y := by unfold yof; rw [hs]
          rw [hstm]
          rcases hlk2 with hq | hq
          · have hq2 := mrl_ok hq
            simp only [Bool.false_eq_true, ↓reduceIte] at hq2
            rw [hy, hoc] at hq2
            exact va_runS (As := av'.map (zcv b as)) (n := n) ⟨hx, hb, hml, ho, hts⟩ hM ⟨⟨rfl, rfl, hrm, hlk _ g1, hpay, List.mem_cons_self, hcd, hts _ s1, ⟨hn1, hn2⟩, argN_sig s5, hts _ hq2⟩, hts _ s2⟩ ⟨zPc_blind, hpre⟩ rfl (by rw [List.length_map]; exact hlen) lo.1.1 rfl (by rw [← hstm]; exact h8') hdg ⟨hc1, hc2⟩
          · have hq2 := mrl_ok hq
            simp only [↓reduceIte] at hq2
            rw [hy, hoc] at hq2
            exact va_runSN (As := av'.map (zcv b as)) (n := n) ⟨hx, hb, hml, ho, hts⟩ hM ⟨⟨⟨rfl, rfl, hrm, hlk _ g1, hpay, List.mem_cons_self⟩, hcd, hts _ s1, ⟨hn1, hn2⟩, argN_sig s5, hts _ hq2⟩, hts _ s2, trivial⟩ ⟨zPc_blind, hpre⟩ rfl (by rw [List.length_map]; exact hlen) lo.1.1 rfl (by rw [← hstm]; exact h8') hdg ⟨hc1, hc2⟩
      case invokevirtual idx =>
        simp only [opOk, Bool.and_eq_true, decide_eq_true_eq] at hop
        obtain ⟨⟨hl, hq⟩, hsg⟩ := hop
        have hl := Nat.eq_of_beq_eq_true hl
        subst hl
        refine ⟨hnx.symm, hokr, ?_⟩
        have hlt : aux < 214 := mrl_lt hq
        cases hs : sg aux with
        | none => rw [hs] at hsg; cases hsg
        | some q =>
          obtain ⟨y, bb2, mx2, r, kd, pc0, pi, ps, pn⟩ := q
          rw [hs] at hsg
          have hkd := Nat.eq_of_beq_eq_true hsg
          simp only at hkd
          subst hkd
          obtain ⟨n2, tg2, hmi, hmx, hn1, hn2, -, -, h1', -⟩ := sg_spec hlt hs
          obtain ⟨s1, s2, s3, s5, s6, c0, s7, s8, s9⟩ := h1' rfl
          rw [hm] at hmi
          simp only [Option.some.injEq, Prod.mk.injEq] at hmi
          obtain ⟨rfl, rfl, rfl⟩ := hmi
          obtain ⟨g1, hM, hpay, hcd⟩ := body y bb2 _ _ _ _ hs (by decide) hlt
          have hy : yof aux = y := by unfold yof; rw [hs]
          unfold recvOk at hrecv
          subst s7
          simp only at hrecv
          split at hrecv
          case h_2 => cases hrecv
          case h_1 x as1 =>
          split at hrecv
          case h_2 => cases hrecv
          case h_1 t fs hn =>
          have hq9 := Nat.eq_of_beq_eq_true hrecv
          subst hq9
          obtain ⟨i, q, e1, hi, hw, hcr, hzz⟩ := Wd.at (Wd.mk wK wP wD wS pw) hn (by omega)
          have he := cr_8 hcr s8
          subst he
          obtain ⟨C, T, N, v1, v2, v3, v4, -⟩ := vcl_ok t s8
          have hrc := va_recv wK wP v1 hw
          have hn' : as1.length = n - 1 := by rw [← hlen]; rfl
          rw [hstm]
          have hq2 := mrl_ok hq
          simp only [Bool.false_eq_true, ↓reduceIte] at hq2
          rw [hy, hoc] at hq2
          exact va_runV (As := as1.map (zcv b as)) (b := zad b as x) (n := n - 1) (C := y.cls) ⟨hx, hb, hml, ho, hts⟩ hM ⟨⟨rfl, rfl, hrm, hlk _ g1, hpay, List.mem_cons_self, hcd, hts _ s1, ⟨hn1, hn2⟩, argN_sig s5, hts _ hq2⟩, hts _ s2, hts _ s3⟩ ⟨zPc_blind, by rw [hzz, s9, v4]; exact hrc, hpre⟩ rfl (by rw [List.length_map]; exact hn') lo.1.1 (by simp [zcv]) (by rw [← hstm]; exact h8') hdg ⟨hc1, hc2⟩
set_option maxHeartbeats 4000000 in
theorem sim (l : Launch) : ∀ k, SimK l k := by
  intro k
  induction k with
  | zero => intro d u pc L st h v h' e; simp [zrun] at e
  | succ k ih =>
    intro d u pc L st h v h' hz hu y bb mx r z hs p e R s m args below meth c Qm D A H0 b Lx xs as ws tys H locs cells slots ls cx hin hfr hlo hc1 hc2 w lo okl oks ret
    rw [zrun] at hz
    cases hc : codeAt u pc with
    | none => rw [hc] at hz; simp at hz
    | some a =>
      rw [hc] at hz
      simp only at hz
      obtain ⟨oc, hoc, hrow⟩ := rows_ok hu hs hc
      cases hk : kindI a with
      | zero =>
        rw [hk] at hz
        simp only at hz
        cases hst : stepI a L st h with
        | none => rw [hst] at hz; simp at hz
        | some q =>
          obtain ⟨pc1, L1, st1, h1⟩ := q
          rw [hst] at hz
          simp only at hz
          have g1 := step_grow hst
          have g2 := zrun_grow _ _ _ _ _ _ _ _ _ hz
          obtain ⟨ins, nx, aux, neg, sw⟩ := a
          refine step_ok cx ⟨by omega, by omega⟩ ⟨by omega, by omega⟩ hoc.symm (fun q => hin (by simpa using q)) hrow hk hst w lo okl oks ?_
          intro ex ws1 tys1 H1 locs1 ls1 w1 lo1 okl1 oks1
          refine ih d u pc1 L1 st1 h1 v h' hz hu y bb mx r z hs cx hin hfr hlo (by omega) (by omega) w1 lo1 okl1 oks1 ?_
          intro ex2 ws2 tys2 H2 locs2 ls2 pc2 st2 a2 w2 hc2' hr2 ok2
          rw [List.append_assoc] at w2 ⊢
          exact W.num (ret (ex ++ ex2) ws2 tys2 H2 locs2 ls2 pc2 st2 a2 w2 hc2' hr2 ok2) (by omega) (by omega)
      | succ n =>
        rw [hk] at hz
        cases n with
        | zero =>
          simp only at hz
          cases d with
          | zero => simp at hz
          | succ d' =>
            cases hq : zcall a st h with
            | none => rw [hq] at hz; simp at hz
            | some q =>
              obtain ⟨av, rest⟩ := q
              rw [hq] at hz
              simp only at hz
              cases hl : entL a.2.2.1 av with
              | none => rw [hl] at hz; simp at hz
              | some L' =>
                rw [hl] at hz
                simp only at hz
                cases hr : zrun k d' a.2.2.1 0 L' [] h with
                | none => rw [hr] at hz; simp at hz
                | some q =>
                  obtain ⟨v1, h1⟩ := q
                  rw [hr] at hz
                  simp only at hz
                  have g1 := zrun_grow _ _ _ _ _ _ _ _ _ hr
                  have g2 := zrun_grow _ _ _ _ _ _ _ _ _ hz
                  obtain ⟨ins, nx, aux, neg, sw⟩ := a
                  have hcr := call_run (u := u) (m := m) (args := args) (below := below) (meth := meth) (locs := locs) (cells := cells) (slots := slots) (e := e) ih hrow hoc (by rw [hk]) hq hl hr cx (by omega) hlo (by omega) (by omega) w lo oks
                  obtain ⟨hnx, hokr, hrun⟩ := hcr
                  simp only at hz
                  have wD := w.2.2.1
                  have wS := w.2.2.2.1
                  have hA := cx.2.2.2.2.2.2.2.2.1
                  have hfree : ∀ q, va_A ws H.size q → A q := by
                    rintro q (⟨j, e9, hj⟩ | hj)
                    · exact wD.2 j _ hj
                    · exact hA q (Nat.le_trans wS.1 hj)
                  refine z_call hrun wS (fun q _ hq => hfree q hq) hfree (fun st v t hq => hq.2) ?_
                  intro v9 st0 t H1 locs1 h0 ht hal hQ hS1
                  obtain ⟨⟨ex, ws1, tys1, hv9, hK1, hP1, hD1, pw1, hov⟩, -⟩ := hQ
                  simp only [Outcome.returned.injEq] at hv9
                  subst hv9
                  rw [ht] at hP1
                  have w1 : Wd D s A H0 b Lx xs h1 (as ++ ex) ws1 tys1 H1 locs1 := Wd.mk (va_K.moved hal.symm hK1) hP1 (hD1.weaken (fun j q _ hq => hfree q.1 hq)) hS1 pw1
                  have g6 := w.2.2.2.2.2.1
                  have hmap : rest.map (zcv b (as ++ ex)) = rest.map (zcv b as) := zcv_map_app b as ex (by rw [← g6]; exact hokr)
                  have okp : okS h1.length (pushV v1 rest) := by
                    cases v1 with
                    | none => exact okS_le hokr g1.1
                    | some x => exact List.forall_mem_cons.mpr ⟨hov x rfl, okS_le hokr g1.1⟩
                  have hfr2 : (Option.map (zcv b (as ++ ex)) v1).toList ++ rest.map (zcv b as) = (pushV v1 rest).map (zcv b (as ++ ex)) := by
                    cases v1 with
                    | none => exact hmap.symm
                    | some x => show _ :: _ = _ :: _; rw [hmap]; rfl
                  rw [hfr2, ← hnx]
                  refine ih (d' + 1) u nx L (pushV v1 rest) h1 v h' hz hu y bb mx r z hs cx hin hfr hlo (by omega) (by omega) w1 (lo.app ex (by rw [← g6]; exact okl)) (okLc_le okl g1.1) okp ?_
                  intro ex2 ws2 tys2 H2 locs2 ls2 pc2 st2 a2 w2 hc2' hr2 ok2
                  rw [List.append_assoc] at w2 ⊢
                  exact W.num (ret (ex ++ ex2) ws2 tys2 H2 locs2 ls2 pc2 st2 a2 w2 hc2' hr2 ok2) (by omega) (by omega)
        | succ n =>
          simp only at hz
          cases hr : retI a st with
          | none => rw [hr] at hz; simp at hz
          | some v1 =>
            rw [hr] at hz
            simp only [Option.some.injEq, Prod.mk.injEq] at hz
            obtain ⟨rfl, rfl⟩ := hz
            have := ret [] ws tys H locs ls pc st a (by rw [List.append_nil]; exact w) hc hr oks
            rw [List.append_nil] at this
            exact W.num this (by omega) (by omega)
