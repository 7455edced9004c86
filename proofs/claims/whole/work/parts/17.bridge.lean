/-! the bridge itself -/
theorem ret_row {p : Program} {l : Launch} {e : Env} {R : Room} {s : State} {m : MethodId} {args : Array Value} {below : List Frame} {meth : Method} {c : Code} {H : Heap} {locs : List Loc} {cells slots oc pc b : Nat} {as : List Nat} {ini : Bool} {bb : ByteArray} {r : Option FieldType} {a : AI} {st : List Value} {v : Option Value} {ls : Array Slot} {Qc : Array Value → State → Outcome → State → Prop} {free : Addr → Prop} (hx : p.tables.exec = Jvm.exec) (hb : c.code = bb) (hrow : rowOk oc ini (zrOf r) bb (pc, a) = true) (hri : retI a st = some v) (hr : meth.sig.returnType = r) (hlocks : meth.locks = false) (hq : ∀ t : State, t.heap = H → s.WarmedH t.vm → Qc args s (.returned (v.map (zcv b as))) t) (hf : ∀ q ∈ locs, free q.base) : W p l e R s m args below meth c H locs cells slots (MQ below Qc args s cells slots free) (F0 m pc ls (st.map (zcv b as))) := by
  obtain ⟨ins, nx, aux, neg, sw⟩ := a
  unfold rowOk at hrow
  simp only at hrow
  split at hrow
  · rename_i i len hdg
    simp only [Bool.and_eq_true, decide_eq_true_eq] at hrow
    obtain ⟨rfl, hnx, hop⟩ := hrow
    unfold retI at hri
    simp only at hri
    split at hri
    · rename_i x
      simp only [opOk, Bool.and_eq_true, Bool.or_eq_true] at hop
      have hl := Nat.eq_of_beq_eq_true hop.1
      subst hl
      simp only [cond_eq_ite] at hri
      split at hri
      · rename_i hx01
        simp only [Option.some.injEq] at hri
        subst hri
        rcases hop.2 with ⟨h1, -⟩ | ⟨h1, h2⟩
        · have h1 := Nat.eq_of_beq_eq_true h1
          have hrt : r = some .int := by
            cases r with
            | none => cases h1
            | some t => cases t <;> first | rfl | cases h1
          exact W.iret hx hb (hr.trans hrt) hq hf hdg hlocks
        · have h1 := Nat.eq_of_beq_eq_true h1
          have h2 := Nat.eq_of_beq_eq_true h2
          subst h2
          have hrt : r = some .boolean := by
            cases r with
            | none => cases h1
            | some t => cases t <;> first | rfl | cases h1
          refine W.zret (ty := .boolean) hx hb (hr.trans hrt) ?_ hq hf hdg hlocks
          simp only [Bool.or_eq_true, decide_eq_true_eq] at hx01
          rcases hx01 with h | rfl | rfl
          · cases h
          · rfl
          · rfl
      · cases hri
    · rename_i x
      simp only [opOk, Bool.and_eq_true] at hop
      have hl := Nat.eq_of_beq_eq_true hop.1
      subst hl
      simp only [Option.some.injEq] at hri
      subst hri
      have h1 := Nat.eq_of_beq_eq_true hop.2
      have hrt : r = some .long := by
        cases r with
        | none => cases h1
        | some t => cases t <;> first | rfl | cases h1
      exact W.lret hx hb (hr.trans hrt) hq hf hdg hlocks
    · rename_i x
      simp only [opOk, Bool.and_eq_true] at hop
      have hl := Nat.eq_of_beq_eq_true hop.1
      subst hl
      simp only [Option.some.injEq] at hri
      subst hri
      have h1 := Nat.eq_of_beq_eq_true hop.2
      obtain ⟨n, hrt⟩ : ∃ n, r = some (.object n) := by
        cases r with
        | none => cases h1
        | some t => cases t <;> first | exact ⟨_, rfl⟩ | cases h1
      exact W.aret hx hb (hr.trans hrt) (Or.inl ⟨n, rfl⟩) (Or.inr ⟨_, rfl⟩) hq hf hdg hlocks
    · simp only [opOk, Bool.and_eq_true] at hop
      have hl := Nat.eq_of_beq_eq_true hop.1
      subst hl
      simp only [Option.some.injEq] at hri
      subst hri
      have h1 := Nat.eq_of_beq_eq_true hop.2
      obtain ⟨n, hrt⟩ : ∃ n, r = some (.object n) := by
        cases r with
        | none => cases h1
        | some t => cases t <;> first | exact ⟨_, rfl⟩ | cases h1
      exact W.aret hx hb (hr.trans hrt) (Or.inl ⟨n, rfl⟩) (Or.inl rfl) hq hf hdg hlocks
    · simp only [opOk, Bool.and_eq_true] at hop
      have hl := Nat.eq_of_beq_eq_true hop.1
      subst hl
      simp only [Option.some.injEq] at hri
      subst hri
      have h1 := Nat.eq_of_beq_eq_true hop.2
      have hrt : r = none := by
        cases r with
        | none => rfl
        | some t => cases t <;> cases h1
      exact W.vret hx hb (hr.trans hrt) hq hf hdg hlocks
    · cases hri
  · cases hrow
def SimK (l : Launch) (k : Nat) : Prop := ∀ (d u pc : Nat) (L : Lc) (st : List Value) (h : Hp) (v : Option Value) (h' : Hp), zrun k d u pc L st h = some (v, h') → u < 214 → ∀ (y : MethodName) (bb : ByteArray) (mx : Nat) (r : Option FieldType) (z : Nat × Nat × Nat × Nat × Nat), sg u = some (y, bb, mx, r, z) →
  ∀ {p : Program} {e : Env} {R : Room} {s : State} {m : MethodId} {args : Array Value} {below : List Frame} {meth : Method} {c : Code} {Qm : State → Prop} {D : va_G} {A : Nat → Prop} {H0 : Heap} {b Lx : Nat} {xs : Nat → Int32} {as : List Nat} {ws : va_W} {tys : List (ClassId × FieldType)} {H : Heap} {locs : List Loc} {cells slots : Nat} {ls : Array Slot}, Cx p R m c s args bb mx y.cls b Lx xs A H0 → (y.name = "<init>" → meth.name = "<init>") → d + 1 ≤ R.frames → LK * (d + 1) ≤ R.locals → cells + (h'.length - h.length) ≤ R.cells → slots + (slt h' - slt h) ≤ R.slots → Wd D s A H0 b Lx xs h as ws tys H locs → LO ls mx b as L → okLc h.length L → okS h.length st →
  (∀ (ex : List Nat) (ws' : va_W) (tys' : List (ClassId × FieldType)) (H' : Heap) (locs' : List Loc) (ls' : Array Slot) (pc' : Nat) (st' : List Value) (a' : AI), Wd D s A H0 b Lx xs h' (as ++ ex) ws' tys' H' locs' → codeAt u pc' = some a' → retI a' st' = some v → okS h'.length st' → W p l e R s m args below meth c H' locs' (cells + (h'.length - h.length)) (slots + (slt h' - slt h)) Qm (F0 m pc' ls' (st'.map (zcv b (as ++ ex))))) →
  W p l e R s m args below meth c H locs cells slots Qm (F0 m pc ls (st.map (zcv b as)))
theorem met_of {l : Launch} {k : Nat} (IH : SimK l k) {d u : Nat} {L : Lc} {h h1 : Hp} {v : Option Value} {av : List Value} (hrun : zrun k d u 0 L [] h = some (v, h1)) (hu : u < 214) {y : MethodName} {bb : ByteArray} {mx kd : Nat} {r : Option FieldType} {z : Nat × Nat × Nat × Nat} (hs : sg u = some (y, bb, mx, r, kd, z)) (hkd : kd ≤ 2) (hent : entL u av = some L) {D : va_G} {b Lx sz : Nat} {xs : Nat → Int32} {as : List Nat} {ws : va_W} {tys : List (ClassId × FieldType)} (pw : PW b Lx xs h as ws tys) (hok : okS h.length av) (hbw : ∀ (k : Nat) (e : va_E), ws[k]? ≠ some (b, e)) (hbs : b < sz) :
    Met l y (Cond.code y bb mx r :: gt) { frames := d + 1, cells := h1.length - h.length, slots := slt h1 - slt h, locals := LK * (d + 1) } (zPc D b Lx xs as ws tys sz (av.map (zcv b as))) (zQc D b Lx xs as ws sz v h1) (h1.length - h.length) (slt h1 - slt h) (va_A ws sz) := by
  obtain ⟨pc0, pi, ps, pn⟩ := z
  obtain ⟨n, tg, hmi, hmx, -, -, hpl, -⟩ := sg_spec hu hs
  have hcode := sg_code hs hkd
  refine Met.ofW (cc := bb) (maxL := mx) (ret := r) hpl rfl ?_
  intro p e s m args below meth c s₁ B hml hv
  obtain ⟨rfl, hsz, hP, hK, hD0, hX, hXW⟩ := hv
  have hx := B.exec
  have hb := B.bytes
  have hr := B.returns
  have hts0 := atoms_spec (ws := Cond.code y bb mx r :: gt) B.pre
  have hts : ∀ w ∈ zt, w.before (av.map (zcv b as)).toArray s = true := fun w hw => by
    by_cases hg : goodWord w = true
    · exact hts0 w (List.mem_cons_of_mem _ (List.mem_filter.mpr ⟨hw, hg⟩))
    · exact hXW.use w hw hg
  have hown : s.vm.findClass y.cls = some m.cls := findClass_of_methodNamed B.named
  have hlocks := B.notSynchronized
  have hin : meth.name = y.name := (name_of_methodNamed B.named B.method).1
  subst hsz
  have hD := hD0.self (sz := s.heap.size)
  have hA : ∀ q : Nat, s.heap.size ≤ q → va_A ws s.heap.size q := fun q h => Or.inr h
  have hS : va_S (va_A ws s.heap.size) s.heap s.heap [] := va_S.rf
  have hbA : ¬ va_A ws s.heap.size b := by
    rintro (⟨k, e, hk⟩ | hk)
    · exact hbw k e hk
    · omega
  rw [lg_entry_eq]
  have lo := ent_LO (b := b) (as := as) hok hent hmi
  have hlk : LK * (d + 1) ≥ 40 := by show 40 * (d + 1) ≥ 40; omega
  refine IH d u 0 L [] h v h1 hrun hu y bb mx r (kd, pc0, pi, ps, pn) hs (as := as) (ws := ws) (tys := tys) (D := D) (b := b) (Lx := Lx) (xs := xs) ⟨hx, hb, hml, hown, hts, hX, hbs, hbA, hA, by show 1 ≤ d + 1; omega, hlk⟩ (fun q => hin.trans q) (Nat.le_refl _) (Nat.le_refl _) (by show 0 + _ ≤ h1.length - h.length; omega) (by show 0 + _ ≤ slt h1 - slt h; omega) (Wd.mk hK hP hD hS pw) lo (ent_ok hok hent) (fun _ h => by cases h) ?_
  intro ex ws' tys' H' locs' ls' pc' st' a' w' hc' hr' ok'
  obtain ⟨oc, -, hrow⟩ := rows_ok hu hs hc'
  have hro := retI_ok hr' ok'
  refine W.num (cells := h1.length - h.length) (slots := slt h1 - slt h) ?_ (Nat.zero_add _).symm (Nat.zero_add _).symm
  obtain ⟨g1, g2, g3, g4, g5⟩ := w'
  refine ret_row hx hb hrow hr' hr hlocks (fun t ht hW => ⟨⟨ex, ws', tys', rfl, va_K.moved hW.alike g1, by rw [ht]; exact g2, g3, g5, hro⟩, g4.F ht⟩) g4.2.2
