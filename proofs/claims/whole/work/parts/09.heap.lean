/-! steps over the heap -/
section SIM2
variable {p : Program} {l : Launch} {e : Env} {R : Room} {s : State} {m : MethodId} {args : Array Value} {below : List Frame} {meth : Method} {c : Code} {Qm : State → Prop} {D : va_G} {A : Nat → Prop} {H0 : Heap} {b Lx nL : Nat} {xs : Nat → Int32} {own : String} {cc : ByteArray}
variable {as : List Nat} {ws : va_W} {tys : List (ClassId × FieldType)} {H : Heap} {locs : List Loc} {cells slots : Nat} {ls : Array Slot} {L L' : Lc} {st st' : List Value} {h h1 : Hp} {pc pc' nx : Nat}
theorem vcl_ok : ∀ t, t < 8 → ∃ (C : String) (T : u_T) (N : Nat), vcl[t]? = some (C, T, N) ∧ N = nfs t ∧ fT t = T ∧ cn t = C ∧ (∀ k, k < N → parseFieldDescriptor (T k).2.2.1 = some (fty t k)) ∧ (∀ a, a < N → ∀ b, b < N → a ≠ b → (T a).2.1 ≠ (T b).2.1) := by
  intro t ht
  rcases (show t = 0 ∨ t = 1 ∨ t = 2 ∨ t = 3 ∨ t = 4 ∨ t = 5 ∨ t = 6 ∨ t = 7 by omega) with rfl | rfl | rfl | rfl | rfl | rfl | rfl | rfl
  · exact ⟨RX0, TX0, _, rfl, by decide +kernel, rfl, by decide +kernel, by decide +kernel, nmX0⟩
  · exact ⟨RX1, TX1, _, rfl, by decide +kernel, rfl, by decide +kernel, by decide +kernel, nmX1⟩
  · exact ⟨RX2, TX2, _, rfl, by decide +kernel, rfl, by decide +kernel, by decide +kernel, nmX2⟩
  · exact ⟨RX3, TX3, _, rfl, by decide +kernel, rfl, by decide +kernel, by decide +kernel, nmX3⟩
  · exact ⟨RX4, TX4, _, rfl, by decide +kernel, rfl, by decide +kernel, by decide +kernel, nmX4⟩
  · exact ⟨RX5, TX5, _, rfl, by decide +kernel, rfl, by decide +kernel, by decide +kernel, nmX5⟩
  · exact ⟨RX6, TX6, _, rfl, by decide +kernel, rfl, by decide +kernel, by decide +kernel, nmX6⟩
  · exact ⟨RX7, TX7, _, rfl, by decide +kernel, rfl, by decide +kernel, by decide +kernel, nmX7⟩
theorem vws_ok : (List.range 8).all (fun t => match nth vcl t with
    | some (C, T, N) => (u_ws C T N).all (fun w => decide (w ∈ zt)) && decide (Cond.instantiable C N ∈ zt) && decide (Cond.initialized C ∈ zt) && (List.range N).all (fun k => decide (defaultValue (fty t k) = dfl (fty t k)))
    | none => false) = true := by decide +kernel
theorem vws {t : Nat} {C : String} {T : u_T} {N : Nat} (h : vcl[t]? = some (C, T, N)) : (∀ w ∈ u_ws C T N, w ∈ zt) ∧ Cond.instantiable C N ∈ zt ∧ Cond.initialized C ∈ zt ∧ ∀ k, k < N → defaultValue (fty t k) = dfl (fty t k) := by
  have ht : t < 8 := (List.getElem?_eq_some_iff.mp h).1
  have := List.all_eq_true.mp vws_ok t (List.mem_range.mpr ht)
  rw [nth_eq, h] at this
  simp only [Bool.and_eq_true, List.all_eq_true, decide_eq_true_eq, List.mem_range] at this
  exact ⟨this.1.1.1, this.1.1.2, this.1.2, this.2⟩
theorem frl_mem {o i : Nat} : ∀ {l : List (Nat × Nat × Nat × Nat × Nat)} {c k : Nat}, frl o i l = some (c, k) → ∃ q, (o, i, c, k, q) ∈ l
  | [], c, k, h => by cases h
  | (a, b, c', k', q) :: l, c, k, h => by
    unfold frl at h
    cases hb : (Nat.beq a o && Nat.beq b i) with
    | true =>
      rw [hb] at h
      simp only [cond_true, Option.some.injEq, Prod.mk.injEq] at h
      simp only [Bool.and_eq_true] at hb
      obtain ⟨rfl, rfl⟩ := h
      obtain ⟨h1, h2⟩ := hb
      have h1 := Nat.eq_of_beq_eq_true h1
      have h2 := Nat.eq_of_beq_eq_true h2
      subst h1 h2
      exact ⟨q, List.mem_cons_self⟩
    | false =>
      rw [hb] at h
      obtain ⟨q, hq⟩ := frl_mem h
      exact ⟨q, List.mem_cons_of_mem _ hq⟩
theorem frl_ok {o i c k : Nat} (h : frl o i frt = some (c, k)) : Cond.fieldLink (cn o) i (fT c k).1 (fT c k).2.1 (fT c k).2.2.1 ∈ zt ∧ c < 8 ∧ k < nfs c := by
  obtain ⟨q, hq⟩ := frl_mem h
  have := List.all_eq_true.mp frt_ok _ hq
  simp only [Bool.and_eq_true, Nat.blt_eq] at this
  exact ⟨lw_at_mem this.1, this.2.1, this.2.2⟩
theorem okf_fit {ty : FieldType} {v : Value} (b : Nat) (as : List Nat) (h : okf ty v = true) : narrow ty (zcv b as v) = zcv b as v ∧ fits ty (zcv b as v) = true := by
  cases ty <;> cases v <;> first
    | (exfalso; revert h; simp [okf]; done)
    | exact ⟨rfl, rfl⟩
    | (rename_i x
       simp only [okf, Bool.or_eq_true, decide_eq_true_eq] at h
       rcases h with rfl | rfl <;> exact ⟨rfl, rfl⟩)
theorem cr_8 {t : Nat} {vs : List Value} {e : va_E} (h : cr b as tys t vs e) (ht : t < 8) : e = .inr (t, vs.map (zcv b as)) := by
  rcases h with ⟨-, h⟩ | ⟨h, -⟩ | ⟨h, -⟩ | ⟨h, -⟩
  · exact h
  all_goals (exfalso; omega)
theorem cr_i {vs : List Value} {e : va_E} (h : cr b as tys 100 vs e) : ∃ (cA : ClassId) (f : Nat → Int32) (t0 : Nat), e = .inl (cA, vs.length, .inl f) ∧ tys[t0]? = some (cA, .int) ∧ ∀ (j : Nat) (v : Value), nth vs j = some v → v = .int (f j) := by
  rcases h with ⟨h, -⟩ | ⟨-, h⟩ | ⟨h, -⟩ | ⟨h, -⟩
  · exfalso; omega
  · exact h
  · exfalso; omega
  · exfalso; omega
theorem cr_j {vs : List Value} {e : va_E} (h : cr b as tys 101 vs e) : ∃ (cA : ClassId) (f : Nat → Int64) (t0 : Nat), e = .inl (cA, vs.length, .inr (.inl f)) ∧ tys[t0]? = some (cA, .long) ∧ ∀ (j : Nat) (v : Value), nth vs j = some v → v = .long (f j) := by
  rcases h with ⟨h, -⟩ | ⟨h, -⟩ | ⟨-, h⟩ | ⟨h, -⟩
  · exfalso; omega
  · exfalso; omega
  · exact h
  · exfalso; omega
theorem cr_q {vs : List Value} {e : va_E} (h : cr b as tys 102 vs e) : ∃ (cA : ClassId) (f : Nat → Option Nat) (t0 : Nat), e = .inl (cA, vs.length, .inr (.inr (.inr (.inr f)))) ∧ tys[t0]? = some (cA, .object "MinorTables$Tape") ∧ ∀ (j : Nat) (v : Value), nth vs j = some v → zcv b as v = va_rf (f j) := by
  rcases h with ⟨h, -⟩ | ⟨h, -⟩ | ⟨h, -⟩ | ⟨-, h⟩
  · exfalso; omega
  · exfalso; omega
  · exfalso; omega
  · exact h
theorem Wd.at {i t : Nat} {vs : List Value} (w : Wd D s A H0 b Lx xs h as ws tys H locs) (hi : nth h i = some (t, vs)) (ht : t ≠ 103) : ∃ (k q : Nat) (e : va_E), i = k + 1 ∧ ws[k]? = some (q, e) ∧ cr b as tys t vs e ∧ zad b as i = q := by
  obtain ⟨-, -, -, -, has, hlen, h0, hc, -⟩ := w
  cases i with
  | zero =>
    rw [h0] at hi
    simp only [Option.some.injEq, Prod.mk.injEq] at hi
    exact absurd hi.1.symm ht
  | succ k =>
    obtain ⟨q, e, h1, h2⟩ := hc k t vs hi
    refine ⟨k, q, e, rfl, h1, h2, ?_⟩
    show as.getD k 0 = q
    rw [← has, List.getD_eq_getElem?_getD, List.getElem?_map, h1]
    rfl
theorem slt_set {h : Hp} {i t t' : Nat} {vs vs' : List Value} (hi : nth h i = some (t, vs)) (hl : vs'.length = vs.length) : slt (h.set i (t', vs')) = slt h := by
  unfold slt
  congr 1
  rw [List.map_set]
  rw [nth_eq] at hi
  apply List.ext_getElem?
  intro k
  rw [List.getElem?_set]
  split
  · rename_i e
    subst e
    have := (List.getElem?_eq_some_iff.mp hi).1
    rw [List.getElem?_map, hi]
    simp only [List.length_map, this, ↓reduceIte, Option.map_some, hl]
  · rfl
theorem Wd.upd {i t t' : Nat} {vs vs' : List Value} {k q : Nat} {e0 e' : va_E} {H1 : Heap} {locs1 : List Loc} (w : Wd D s A H0 b Lx xs h as ws tys H locs) (hi : i = k + 1) (hn : nth h i = some (t, vs)) (hw : ws[k]? = some (q, e0)) (hP : va_P D vcl (ws.set k (q, e')) H1) (hD : va_D A (ws.set k (q, e'))) (hS : va_S A H0 H1 locs1) (hcr : cr b as tys t' vs' e') (hok : okS h.length vs') : Wd D s A H0 b Lx xs (h.set i (t', vs')) as (ws.set k (q, e')) tys H1 locs1 := by
  subst hi
  obtain ⟨g1, g2, g3, g4, g5, g6, g7, g8, g9⟩ := w
  have hlt : k + 1 < h.length := nth_lt hn
  refine ⟨g1, hP, hD, hS, ?_, by rw [List.length_set]; exact g6, ?_, ?_, ?_⟩
  · rw [List.map_set]
    show (ws.map _).set k q = as
    rw [g5]
    apply List.ext_getElem?
    intro j
    rw [List.getElem?_set]
    split
    · rename_i z
      subst z
      have := (List.getElem?_eq_some_iff.mp hw).1
      rw [← g5]
      simp only [List.length_map, this, ↓reduceIte, List.getElem?_map, hw, Option.map_some]
    · rfl
  · rw [nth_eq, List.getElem?_set_ne (by omega), ← nth_eq]
    exact g7
  · intro j u us hj
    rw [nth_eq, List.getElem?_set] at hj
    split at hj
    · rename_i z
      have z : k = j := by omega
      subst z
      simp only [hlt, ↓reduceIte, Option.some.injEq, Prod.mk.injEq] at hj
      obtain ⟨rfl, rfl⟩ := hj
      refine ⟨q, e', ?_, hcr⟩
      rw [List.getElem?_set_self (List.getElem?_eq_some_iff.mp hw).1]
    · rename_i z
      rw [← nth_eq] at hj
      obtain ⟨q2, e2, h1, h2⟩ := g8 j u us hj
      exact ⟨q2, e2, by rw [List.getElem?_set_ne (by omega)]; exact h1, h2⟩
  · intro j u us hj
    rw [List.length_set]
    rw [nth_eq, List.getElem?_set] at hj
    split at hj
    · simp only [hlt, ↓reduceIte, Option.some.injEq, Prod.mk.injEq] at hj
      obtain ⟨rfl, rfl⟩ := hj
      exact hok
    · rw [← nth_eq] at hj
      exact g9 j u us hj
theorem sm_get (cx : Cx p R m c s args cc nL own b Lx xs A H0) {k c0 z oc idx : Nat} {sw : List (Nat × Nat)} (hown : own = cn oc) (hf : frl oc idx frt = some (c0, k)) (hdg : decode cc pc = .ok (.getfield idx, 3)) (hnx : pc + 3 = nx) (e0 : s_get k nx ((c0, z) :: sw) L st h = some (pc', L', st', h1)) (w : Wd D s A H0 b Lx xs h as ws tys H locs) (lo : LO ls nL b as L) (okl : okLc h.length L) (oks : okS h.length st) (kk : Kn p l e R s m args below meth c Qm D A H0 b Lx nL xs as h.length (slt h) cells slots h1 L' st' pc') : W p l e R s m args below meth c H locs cells slots Qm (F0 m pc ls (st.map (zcv b as))) := by
  obtain ⟨hx, hb, hml, ho, hts, -⟩ := cx
  obtain ⟨f1, f2, f3⟩ := frl_ok hf
  unfold s_get at e0
  split at e0
  · rename_i a r c1 z1 sw1 hq
    cases hq
    split at e0
    · rename_i t fs hn
      cases hb2 : Nat.beq t c0 with
      | false => rw [hb2] at e0; cases e0
      | true =>
        rw [hb2] at e0
        have htc : t = c0 := Nat.eq_of_beq_eq_true hb2
        subst htc
        simp only [cond_true] at e0
        split at e0
        · rename_i v hv
          simp only [Option.some.injEq, Prod.mk.injEq] at e0; obtain ⟨rfl, rfl, rfl, rfl⟩ := e0
          obtain ⟨i, q, e1, hi, hw, hcr, hz⟩ := w.at hn (by omega)
          have he := cr_8 hcr f2
          subst he
          obtain ⟨C, T, N, v1, v2, v3, v4, v5, v6⟩ := vcl_ok t f2
          have v7 := vws v1
          have hmem : v ∈ fs := List.mem_of_getElem? (by rw [← nth_eq]; exact hv)
          have hokv : okV h.length v := w.2.2.2.2.2.2.2.2 a t fs hn v hmem
          have KK := Kn.same kk w lo okl (List.forall_mem_cons.mpr ⟨hokv, (List.forall_mem_cons.mp oks).2⟩)
          rw [List.map_cons] at KK ⊢
          rw [v3, ← hown] at f1
          show W p l e R s m args below meth c H locs cells slots Qm (F0 m pc ls (.ref (zad b as a) :: r.map (zcv b as)))
          rw [hz]
          exact va_get (D := D) (cl := vcl) (tys := tys) (ws := ws) hx hb hts v7.1 ho w.1 w.2.1 i hw v1 k (by rw [v2]; exact f3) (hts _ f1) (fun _ h9 => h9) (by rw [List.getElem?_map, ← nth_eq, hv]; rfl) hdg (by rw [hnx]; exact KK)
        · cases e0
    · cases e0
  · cases e0
theorem decl_ok : (List.range 8).all (fun t => (List.range (nfs t)).all (fun k => decide ((fT t k).1 = cn t))) = true := by decide +kernel
theorem decl_own (t : Nat) (ht : t < 8) (k : Nat) (hk : k < nfs t) : (fT t k).1 = cn t := by
  have := List.all_eq_true.mp decl_ok t (List.mem_range.mpr ht)
  exact of_decide_eq_true (List.all_eq_true.mp this k (List.mem_range.mpr hk))
theorem sm_put (cx : Cx p R m c s args cc nL own b Lx xs A H0) {k c0 z oc idx : Nat} {sw : List (Nat × Nat)} (hown : own = cn oc) (hf : frl oc idx frt = some (c0, k)) (hfin : (fT c0 k).2.2.2 = false ∨ (meth.name = "<init>" ∧ c0 = oc)) (hdg : decode cc pc = .ok (.putfield idx, 3)) (hnx : pc + 3 = nx) (e0 : s_put fty k nx ((c0, z) :: sw) L st h = some (pc', L', st', h1)) (w : Wd D s A H0 b Lx xs h as ws tys H locs) (lo : LO ls nL b as L) (okl : okLc h.length L) (oks : okS h.length st) (kk : Kn p l e R s m args below meth c Qm D A H0 b Lx nL xs as h.length (slt h) cells slots h1 L' st' pc') : W p l e R s m args below meth c H locs cells slots Qm (F0 m pc ls (st.map (zcv b as))) := by
  obtain ⟨hx, hb, hml, ho, hts, -⟩ := cx
  obtain ⟨f1, f2, f3⟩ := frl_ok hf
  unfold s_put at e0
  split at e0
  · rename_i v a r c1 z1 sw1 hq
    cases hq
    split at e0
    · rename_i t fs hn
      cases hb2 : (Nat.beq t c0 && (Nat.blt k fs.length && okf (fty c0 k) v)) with
      | false => rw [hb2] at e0; cases e0
      | true =>
        rw [hb2] at e0
        simp only [Bool.and_eq_true, Nat.blt_eq] at hb2
        obtain ⟨hbt, hkl, hokf⟩ := hb2
        have htc : t = c0 := Nat.eq_of_beq_eq_true hbt
        subst htc
        simp only [cond_true, Option.some.injEq, Prod.mk.injEq] at e0; obtain ⟨rfl, rfl, rfl, rfl⟩ := e0
        rw [setV_eq, setH_eq] at kk
        obtain ⟨i, q, e1, hi, hw, hcr, hz⟩ := w.at hn (by omega)
        have he := cr_8 hcr f2
        subst he
        obtain ⟨C, T, N, v1, v2, v3, v4, v5, v6⟩ := vcl_ok t f2
        have v7 := vws v1
        have hokfs := w.2.2.2.2.2.2.2.2 a t fs hn
        have ho2 := List.forall_mem_cons.mp oks
        obtain ⟨n1, n2⟩ := okf_fit b as hokf
        have KK : ∀ (H1 : Heap) (locs1 : List Loc), va_P D vcl (ws.set i (q, .inr (t, (fs.map (zcv b as)).set k (zcv b as v)))) H1 → va_D A (ws.set i (q, .inr (t, (fs.map (zcv b as)).set k (zcv b as v)))) → va_S A H0 H1 locs1 → W p l e R s m args below meth c H1 locs1 cells slots Qm (F0 m (pc + 3) ls (r.map (zcv b as))) := by
          intro H1 locs1 hP hD hS
          rw [hnx]
          refine Kn.samed kk (by rw [List.length_set]) (slt_set hn (by rw [List.length_set])) (w.upd hi hn hw hP hD hS (Or.inl ⟨f2, by rw [List.map_set]⟩) ?_) lo okl (List.forall_mem_cons.mp ho2.2).2
          intro u hu
          rcases List.mem_or_eq_of_mem_set hu with hu | rfl
          · exact hokfs u hu
          · exact ho2.1
        rw [v3, ← hown] at f1
        rw [v3] at hfin
        rw [List.map_cons, List.map_cons]
        show W p l e R s m args below meth c H locs cells slots Qm (F0 m pc ls (zcv b as v :: .ref (zad b as a) :: r.map (zcv b as)))
        rw [hz]
        cases hq2 : (T k).2.2.2 with
        | false => exact va_put (D := D) (cl := vcl) (tys := tys) (ws := ws) (ty := fty t k) hx hb hts v7.1 (fty t) v5 v6 ho w.1 w.2.1 w.2.2.1 w.2.2.2.1 i hw v1 k (by rw [v2]; exact f3) (hts _ f1) (fun _ h9 => h9) hq2 (v5 k (by rw [v2]; exact f3)) n1 n2 (by rw [List.length_map]; exact hkl) hdg KK
        | true =>
          rw [hq2] at hfin
          rcases hfin with hfin | ⟨hin, hco⟩
          · cases hfin
          · refine va_putF (D := D) (cl := vcl) (tys := tys) (ws := ws) (ty := fty t k) hx hb hts v7.1 (fty t) v5 v6 ho w.1 w.2.1 w.2.2.1 w.2.2.2.1 i hw v1 k (by rw [v2]; exact f3) (hts _ f1) (fun _ h9 => h9) hq2 hin ?_ (v5 k (by rw [v2]; exact f3)) n1 n2 (by rw [List.length_map]; exact hkl) hdg KK
            rw [hown, ← hco, ← v3]
            exact decl_own t f2 k f3
    · cases e0
  · cases e0
end SIM2
