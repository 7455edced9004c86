/-! any step at all -/
section SIM6
variable {p : Program} {l : Launch} {e : Env} {R : Room} {s : State} {m : MethodId} {args : Array Value} {below : List Frame} {meth : Method} {c : Code} {Qm : State → Prop} {D : va_G} {A : Nat → Prop} {H0 : Heap} {b Lx nL : Nat} {xs : Nat → Int32} {own : String} {cc : ByteArray}
variable {as : List Nat} {ws : va_W} {tys : List (ClassId × FieldType)} {H : Heap} {locs : List Loc} {cells slots : Nat} {ls : Array Slot} {L L' : Lc} {st st' : List Value} {h h1 : Hp} {pc pc' nx : Nat}
theorem icmp_row (hx : p.tables.exec = Jvm.exec) (hb : c.code = cc) (op : Jvm.ClassFile.Cond) {off : Int} {tg : Nat} {x y : Int32} {rest : List Value} (hdg : decode cc pc = .ok (.if_icmp op off, 3)) (ht : (pc : Int) + off = (tg : Int)) (k : W p l e R s m args below meth c H locs cells slots Qm (F0 m (b_icmp op (pc + 3) tg x y) ls rest)) : W p l e R s m args below meth c H locs cells slots Qm (F0 m pc ls (.int y :: .int x :: rest)) := by
  cases op with
  | eq => exact lv_icmp_eq hx hb hdg ht (fun z => by simpa only [b_icmp, if_pos z] using k) (fun z => by simpa only [b_icmp, if_neg z] using k)
  | ne => exact lv_icmp_ne hx hb hdg ht (fun z => by simpa only [b_icmp, if_neg z] using k) (fun z => by simpa only [b_icmp, if_pos z] using k)
  | lt => exact lv_icmp_lt hx hb hdg ht (fun z => by simpa only [b_icmp, if_pos z] using k) (fun z => by simpa only [b_icmp, if_neg z] using k)
  | ge => exact lv_icmp_ge hx hb hdg ht (fun z => by simpa only [b_icmp, if_neg (Int32.not_lt.mpr z)] using k) (fun z => by simpa only [b_icmp, if_pos (Int32.not_le.mp z)] using k)
  | gt => exact lv_icmp_gt hx hb hdg ht (fun z => by simpa only [b_icmp, if_pos z] using k) (fun z => by simpa only [b_icmp, if_neg z] using k)
  | le => exact lv_icmp_le hx hb hdg ht (fun z => by simpa only [b_icmp, if_neg (Int32.not_lt.mpr z)] using k) (fun z => by simpa only [b_icmp, if_pos (Int32.not_le.mp z)] using k)
theorem if_row (hx : p.tables.exec = Jvm.exec) (hb : c.code = cc) (op : Jvm.ClassFile.Cond) {off : Int} {tg : Nat} {x : Int32} {rest : List Value} (hdg : decode cc pc = .ok (.ifCond op off, 3)) (ht : (pc : Int) + off = (tg : Int)) (k : W p l e R s m args below meth c H locs cells slots Qm (F0 m (b_icmp op (pc + 3) tg x (nI 0)) ls rest)) : W p l e R s m args below meth c H locs cells slots Qm (F0 m pc ls (.int x :: rest)) := by
  rw [nI_0] at k
  cases op with
  | eq => exact lv_if_eq hx hb hdg ht (fun z => by simpa only [b_icmp, if_pos z] using k) (fun z => by simpa only [b_icmp, if_neg z] using k)
  | ne => exact lv_if_ne hx hb hdg ht (fun z => by simpa only [b_icmp, if_neg z] using k) (fun z => by simpa only [b_icmp, if_pos z] using k)
  | lt => exact lv_if_lt hx hb hdg ht (fun z => by simpa only [b_icmp, if_pos z] using k) (fun z => by simpa only [b_icmp, if_neg z] using k)
  | ge => exact lv_if_ge hx hb hdg ht (fun z => by simpa only [b_icmp, if_neg (Int32.not_lt.mpr z)] using k) (fun z => by simpa only [b_icmp, if_pos (Int32.not_le.mp z)] using k)
  | gt => exact lv_if_gt hx hb hdg ht (fun z => by simpa only [b_icmp, if_pos z] using k) (fun z => by simpa only [b_icmp, if_neg z] using k)
  | le => exact lv_if_le hx hb hdg ht (fun z => by simpa only [b_icmp, if_neg (Int32.not_lt.mpr z)] using k) (fun z => by simpa only [b_icmp, if_pos (Int32.not_le.mp z)] using k)
theorem b_sw_out {x : Int32} {d : Nat} : ∀ {sw : List (Nat × Nat)}, (∀ q ∈ sw, q.1 < 2 ^ 31 ∧ ¬ x.toInt = (q.1 : Int)) → b_sw x d sw = d
  | [], _ => rfl
  | (k, t) :: l, h => by
    rw [b_sw]
    have h1 := h (k, t) List.mem_cons_self
    rw [if_neg (fun z => h1.2 (by rw [z, nI_toInt h1.1]))]
    exact b_sw_out (fun q hq => h q (List.mem_cons_of_mem _ hq))
theorem b_sw_in {x : Int32} {d : Nat} : ∀ {sw : List (Nat × Nat)} {i k t : Nat}, (∀ q ∈ sw, q.1 < 2 ^ 31) → (∀ (j : Nat) (q : Nat × Nat), sw[j]? = some q → q.1 = k → j = i) → sw[i]? = some (k, t) → x.toInt = (k : Int) → b_sw x d sw = t
  | [], i, k, t, _, _, h, _ => by cases i <;> cases h
  | (k0, t0) :: l, i, k, t, h1, h2, h3, h4 => by
    rw [b_sw]
    by_cases hk : k0 = k
    · subst hk
      have := h2 0 (k0, t0) rfl rfl
      subst this
      simp only [List.getElem?_cons_zero, Option.some.injEq, Prod.mk.injEq] at h3
      rw [if_pos, h3.2]
      exact Int32.toInt_inj.mp (by rw [h4, nI_toInt (h1 (k0, t0) List.mem_cons_self)])
    · have hk0 := h1 (k0, t0) List.mem_cons_self
      rw [if_neg (fun z => hk (by rw [z, nI_toInt hk0] at h4; exact Int.ofNat.inj h4))]
      cases i with
      | zero =>
        simp only [List.getElem?_cons_zero, Option.some.injEq, Prod.mk.injEq] at h3
        exact absurd h3.1 hk
      | succ i =>
        refine b_sw_in (i := i) (fun q hq => h1 q (List.mem_cons_of_mem _ hq)) (fun j q hj hq => ?_) h3 h4
        have := h2 (j + 1) q hj hq
        omega
theorem sw_row (hx : p.tables.exec = Jvm.exec) (hb : c.code = cc) {dflt lo hi : Int} {offs : Array Int} {len aux : Nat} {sw : List (Nat × Nat)} {x : Int32} {rest : List Value} (hdg : decode cc pc = .ok (.tableswitch dflt lo hi offs, len)) (ht : (pc : Int) + dflt = (aux : Int)) (hsw : swOk pc lo hi offs sw = true) (k : W p l e R s m args below meth c H locs cells slots Qm (F0 m (b_sw x aux sw) ls rest)) : W p l e R s m args below meth c H locs cells slots Qm (F0 m pc ls (.int x :: rest)) := by
  unfold swOk at hsw
  simp only [Bool.and_eq_true, decide_eq_true_eq] at hsw
  obtain ⟨h0, h1, h2, h3, h4⟩ := hsw
  have key : ∀ (i : Nat) (q : Nat × Nat), sw[i]? = some q → (q.1 : Int) = lo + (i : Int) ∧ (q.2 : Int) = (pc : Int) + offs.toList.getD i 0 := by
    intro i q hq
    have hi := (List.getElem?_eq_some_iff.mp hq).1
    have := congrArg (fun l => l[i]?) h2
    simp only [List.getElem?_map, hq, List.getElem?_range hi, Option.map_some, Option.some.injEq, Prod.mk.injEq] at this
    exact this
  have hsm : ∀ q ∈ sw, q.1 < 2 ^ 31 := by
    intro q hq
    obtain ⟨i, hi⟩ := List.getElem?_of_mem hq
    have h5 := (key i q hi).1
    have h6 := (List.getElem?_eq_some_iff.mp hi).1
    omega
  by_cases hr : x.toInt < lo ∨ hi < x.toInt
  · refine lv_tableOut hx hb hdg hr ht ?_
    rw [b_sw_out] at k
    · exact k
    · intro q hq
      refine ⟨hsm q hq, fun z => ?_⟩
      obtain ⟨i, hi⟩ := List.getElem?_of_mem hq
      have h5 := (key i q hi).1
      have h6 := (List.getElem?_eq_some_iff.mp hi).1
      omega
  · have ha : ¬ x.toInt < lo := fun z => hr (Or.inl z)
    have hc : ¬ hi < x.toInt := fun z => hr (Or.inr z)
    have hil : (x.toInt - lo).toNat < sw.length := by omega
    obtain ⟨q, hq⟩ : ∃ q, sw[(x.toInt - lo).toNat]? = some q := ⟨_, List.getElem?_eq_getElem hil⟩
    obtain ⟨g1, g2⟩ := key _ q hq
    have ho : (x.toInt - lo).toNat < offs.toList.length := by omega
    have hoff : offs[(x.toInt - lo).toNat]? = some (offs.toList.getD (x.toInt - lo).toNat 0) := by
      rw [← Array.getElem?_toList, List.getD_eq_getElem?_getD, List.getElem?_eq_getElem ho]
      rfl
    refine lv_tableIn hx hb hdg ha hc hoff g2.symm ?_
    rw [b_sw_in (i := (x.toInt - lo).toNat) (k := q.1) (t := q.2) hsm ?_ hq (by omega)] at k
    · exact k
    · intro j q2 hj hq2
      have h5 := (key j q2 hj).1
      omega
theorem nth_none {α : Type} {l : List α} {k : Nat} (h : l.length ≤ k) : nth l k = none := by
  rw [nth_eq]
  exact List.getElem?_eq_none h
theorem sg_big {u : Nat} (h : 990 ≤ u) : sg u = none := by
  unfold sg
  rw [nth_none]
  have : sgall.length = 14 := rfl
  rw [this]
  omega
set_option maxHeartbeats 4000000 in
theorem step_ok {oc zr : Nat} {ini neg : Bool} {ins : Jvm.ClassFile.Instr} {aux : Nat} {sw : List (Nat × Nat)} (cx : Cx p R m c s args cc nL own b Lx xs A H0) (hrm : cells + (h1.length - h.length) ≤ R.cells ∧ slots + (slt h1 - slt h) ≤ R.slots) (hrc : cells ≤ R.cells ∧ slots ≤ R.slots) (hown : own = cn oc) (hini : ini = true → meth.name = "<init>") (hrow : rowOk oc ini zr cc (pc, ins, nx, aux, neg, sw) = true) (hk : kindI (ins, nx, aux, neg, sw) = 0) (e0 : stepI (ins, nx, aux, neg, sw) L st h = some (pc', L', st', h1)) (w : Wd D s A H0 b Lx xs h as ws tys H locs) (lo : LO ls nL b as L) (okl : okLc h.length L) (oks : okS h.length st) (kk : Kn p l e R s m args below meth c Qm D A H0 b Lx nL xs as h.length (slt h) cells slots h1 L' st' pc') : W p l e R s m args below meth c H locs cells slots Qm (F0 m pc ls (st.map (zcv b as))) := by
  obtain ⟨hx, hb, hml, ho, hts, -⟩ := id cx
  unfold rowOk at hrow
  simp only at hrow
  split at hrow
  · rename_i i len hdg
    simp only [Bool.and_eq_true, decide_eq_true_eq] at hrow
    obtain ⟨rfl, hnx, hop⟩ := hrow
    have hnx := Nat.eq_of_beq_eq_true hnx
    cases i with
    | iload_n n =>
      simp only [opOk, Bool.and_eq_true] at hop
      have ha := Nat.eq_of_beq_eq_true hop.1
      have hl := Nat.eq_of_beq_eq_true hop.2
      subst ha hl
      exact sm_ldi (fun x hl k => lv_iload_n hx hb hdg rfl hl (by rw [hnx]; exact k)) e0 w lo okl oks kk
    | iload n =>
      simp only [opOk, Bool.and_eq_true] at hop
      have ha := Nat.eq_of_beq_eq_true hop.1
      have hl := Nat.eq_of_beq_eq_true hop.2
      subst ha hl
      exact sm_ldi (fun x hl k => lv_iload hx hb hdg hl (by rw [hnx]; exact k)) e0 w lo okl oks kk
    | lload_n n =>
      simp only [opOk, Bool.and_eq_true] at hop
      have ha := Nat.eq_of_beq_eq_true hop.1
      have hl := Nat.eq_of_beq_eq_true hop.2
      subst ha hl
      exact sm_ldl (fun x hl k => lv_lload_n hx hb hdg rfl hl (by rw [hnx]; exact k)) e0 w lo okl oks kk
    | lload n =>
      simp only [opOk, Bool.and_eq_true] at hop
      have ha := Nat.eq_of_beq_eq_true hop.1
      have hl := Nat.eq_of_beq_eq_true hop.2
      subst ha hl
      exact sm_ldl (fun x hl k => lv_lload hx hb hdg hl (by rw [hnx]; exact k)) e0 w lo okl oks kk
    | aload_n n =>
      simp only [opOk, Bool.and_eq_true] at hop
      have ha := Nat.eq_of_beq_eq_true hop.1
      have hl := Nat.eq_of_beq_eq_true hop.2
      subst ha hl
      exact sm_lda (fun x hl k => lv_aload_n hx hb hdg rfl hl (by rw [hnx]; exact k)) (fun hl k => lv_aload_nN hx hb hdg rfl hl (by rw [hnx]; exact k)) e0 w lo okl oks kk
    | aload n =>
      simp only [opOk, Bool.and_eq_true] at hop
      have ha := Nat.eq_of_beq_eq_true hop.1
      have hl := Nat.eq_of_beq_eq_true hop.2
      subst ha hl
      exact sm_lda (fun x hl k => lv_aload hx hb hdg hl (by rw [hnx]; exact k)) (fun hl k => lv_aloadN hx hb hdg hl (by rw [hnx]; exact k)) e0 w lo okl oks kk
    | istore_n n =>
      simp only [opOk, Bool.and_eq_true] at hop
      have ha := Nat.eq_of_beq_eq_true hop.1
      have hl := Nat.eq_of_beq_eq_true hop.2
      subst ha hl
      exact sm_sti (fun x rest hh hi k => lv_istore_n (lv := Lz b as L) hx hb hdg rfl hh hi rfl (fun ls' h' => by rw [hnx]; exact k ls' h')) e0 w lo okl oks kk
    | istore n =>
      simp only [opOk, Bool.and_eq_true] at hop
      have ha := Nat.eq_of_beq_eq_true hop.1
      have hl := Nat.eq_of_beq_eq_true hop.2
      subst ha hl
      exact sm_sti (fun x rest hh hi k => lv_istore (lv := Lz b as L) hx hb hdg hh hi rfl (fun ls' h' => by rw [hnx]; exact k ls' h')) e0 w lo okl oks kk
    | lstore_n n =>
      simp only [opOk, Bool.and_eq_true] at hop
      have ha := Nat.eq_of_beq_eq_true hop.1
      have hl := Nat.eq_of_beq_eq_true hop.2
      subst ha hl
      exact sm_stl (fun x rest hh hi k => lv_lstore_n (lv := Lz b as L) hx hb hdg rfl hh hi rfl (fun ls' h' => by rw [hnx]; exact k ls' h')) e0 w lo okl oks kk
    | lstore n =>
      simp only [opOk, Bool.and_eq_true] at hop
      have ha := Nat.eq_of_beq_eq_true hop.1
      have hl := Nat.eq_of_beq_eq_true hop.2
      subst ha hl
      exact sm_stl (fun x rest hh hi k => lv_lstore (lv := Lz b as L) hx hb hdg hh hi rfl (fun ls' h' => by rw [hnx]; exact k ls' h')) e0 w lo okl oks kk
    | astore_n n =>
      simp only [opOk, Bool.and_eq_true] at hop
      have ha := Nat.eq_of_beq_eq_true hop.1
      have hl := Nat.eq_of_beq_eq_true hop.2
      subst ha hl
      exact sm_sta (fun x rest hh hi k => lv_astore_n (lv := Lz b as L) hx hb hdg rfl hh hi rfl (fun ls' h' => by rw [hnx]; exact k ls' h')) (fun rest hh hi k => lv_astore_nN (lv := Lz b as L) hx hb hdg rfl hh hi rfl (fun ls' h' => by rw [hnx]; exact k ls' h')) e0 w lo okl oks kk
    | astore n =>
      simp only [opOk, Bool.and_eq_true] at hop
      have ha := Nat.eq_of_beq_eq_true hop.1
      have hl := Nat.eq_of_beq_eq_true hop.2
      subst ha hl
      exact sm_sta (fun x rest hh hi k => lv_astore (lv := Lz b as L) hx hb hdg hh hi rfl (fun ls' h' => by rw [hnx]; exact k ls' h')) (fun rest hh hi k => lv_astoreN (lv := Lz b as L) hx hb hdg hh hi rfl (fun ls' h' => by rw [hnx]; exact k ls' h')) e0 w lo okl oks kk
    | iinc n z =>
      cases sw with
      | nil => simp [opOk] at hop
      | cons q sw =>
        obtain ⟨k0, z0⟩ := q
        simp only [opOk, Bool.and_eq_true, decide_eq_true_eq] at hop
        have ha := Nat.eq_of_beq_eq_true hop.1.1
        have hl := Nat.eq_of_beq_eq_true hop.1.2
        have hc := hop.2
        subst ha hl
        exact sm_inc (fun k x hk hh hi kq => lv_iinc (lv := Lz b as L) hx hb hdg hh hk (by rw [hc]) hi rfl (fun ls' h' => by rw [hnx]; exact kq ls' h')) e0 w lo okl oks kk
    | iconst n =>
      simp only [opOk, Bool.and_eq_true, decide_eq_true_eq] at hop
      have hl := Nat.eq_of_beq_eq_true hop.1
      subst hl
      have hki : kI aux neg = .int (ci aux neg) := by cases neg <;> rfl
      have e1 : s_k (kI aux neg) nx L st h = some (pc', L', st', h1) := e0
      rw [hki] at e1
      exact sm_k (fun _ => by exact ⟨trivial, fun _ _ => rfl⟩) (fun k => lv_iconst hx hb hdg hop.2 (by rw [hnx]; exact k)) e1 w lo okl oks kk
    | bipush n =>
      simp only [opOk, Bool.and_eq_true, decide_eq_true_eq] at hop
      have hl := Nat.eq_of_beq_eq_true hop.1
      subst hl
      have hki : kI aux neg = .int (ci aux neg) := by cases neg <;> rfl
      have e1 : s_k (kI aux neg) nx L st h = some (pc', L', st', h1) := e0
      rw [hki] at e1
      exact sm_k (fun _ => by exact ⟨trivial, fun _ _ => rfl⟩) (fun k => lv_bipush hx hb hdg hop.2 (by rw [hnx]; exact k)) e1 w lo okl oks kk
    | sipush n =>
      simp only [opOk, Bool.and_eq_true, decide_eq_true_eq] at hop
      have hl := Nat.eq_of_beq_eq_true hop.1
      subst hl
      have hki : kI aux neg = .int (ci aux neg) := by cases neg <;> rfl
      have e1 : s_k (kI aux neg) nx L st h = some (pc', L', st', h1) := e0
      rw [hki] at e1
      exact sm_k (fun _ => by exact ⟨trivial, fun _ _ => rfl⟩) (fun k => lv_sipush hx hb hdg hop.2 (by rw [hnx]; exact k)) e1 w lo okl oks kk
    | lconst n =>
      simp only [opOk, Bool.and_eq_true, decide_eq_true_eq] at hop
      have hl := Nat.eq_of_beq_eq_true hop.1
      subst hl
      have hki : kJ aux neg = .long (cl8 aux neg) := by cases neg <;> rfl
      have e1 : s_k (kJ aux neg) nx L st h = some (pc', L', st', h1) := e0
      rw [hki] at e1
      exact sm_k (fun _ => by exact ⟨trivial, fun _ _ => rfl⟩) (fun k => lv_lconst hx hb hdg hop.2 (by rw [hnx]; exact k)) e1 w lo okl oks kk
    | ldc_w i =>
      simp only [opOk, Bool.and_eq_true, decide_eq_true_eq] at hop
      have hl := Nat.eq_of_beq_eq_true hop.1
      subst hl
      have hki : kI aux neg = .int (ci aux neg) := by cases neg <;> rfl
      have e1 : s_k (kI aux neg) nx L st h = some (pc', L', st', h1) := e0
      rw [hki] at e1
      have hq := hop.2
      rw [← hown] at hq
      exact sm_k (fun _ => by exact ⟨trivial, fun _ _ => rfl⟩) (fun k => lv_ldcw hx hb ho (hts _ hq) hdg (by rw [hnx]; exact k)) e1 w lo okl oks kk
    | ldc2_w i =>
      simp only [opOk, Bool.and_eq_true, decide_eq_true_eq] at hop
      have hl := Nat.eq_of_beq_eq_true hop.1
      subst hl
      have hki : kJ aux neg = .long (cl8 aux neg) := by cases neg <;> rfl
      have e1 : s_k (kJ aux neg) nx L st h = some (pc', L', st', h1) := e0
      rw [hki] at e1
      have hq := hop.2
      rw [← hown] at hq
      exact sm_k (fun _ => by exact ⟨trivial, fun _ _ => rfl⟩) (fun k => lv_ldc2 hx hb ho (hts _ hq) hdg (by rw [hnx]; exact k)) e1 w lo okl oks kk
    | aconst_null =>
      have hl := Nat.eq_of_beq_eq_true hop
      subst hl
      exact sm_k (fun _ => by exact ⟨trivial, fun _ _ => rfl⟩) (fun k => lv_null hx hb hdg (by rw [hnx]; exact k)) e0 w lo okl oks kk
    | iadd =>
      have hl := Nat.eq_of_beq_eq_true hop
      subst hl
      exact sm_ii (fun y x rest k => lv_iadd hx hb hdg (by rw [hnx]; exact k)) e0 w lo okl oks kk
    | isub =>
      have hl := Nat.eq_of_beq_eq_true hop
      subst hl
      exact sm_ii (fun y x rest k => lv_isub hx hb hdg (by rw [hnx]; exact k)) e0 w lo okl oks kk
    | imul =>
      have hl := Nat.eq_of_beq_eq_true hop
      subst hl
      exact sm_ii (fun y x rest k => lv_imul hx hb hdg (by rw [hnx]; exact k)) e0 w lo okl oks kk
    | iand =>
      have hl := Nat.eq_of_beq_eq_true hop
      subst hl
      exact sm_ii (fun y x rest k => lv_iand hx hb hdg (by rw [hnx]; exact k)) e0 w lo okl oks kk
    | ixor =>
      have hl := Nat.eq_of_beq_eq_true hop
      subst hl
      exact sm_ii (fun y x rest k => lv_ixor hx hb hdg (by rw [hnx]; exact k)) e0 w lo okl oks kk
    | ishl =>
      have hl := Nat.eq_of_beq_eq_true hop
      subst hl
      exact sm_ii (fun y x rest k => lv_ishl hx hb hdg (by rw [hnx]; exact k)) e0 w lo okl oks kk
    | ishr =>
      have hl := Nat.eq_of_beq_eq_true hop
      subst hl
      exact sm_ii (fun y x rest k => lv_ishr hx hb hdg (by rw [hnx]; exact k)) e0 w lo okl oks kk
    | iushr =>
      have hl := Nat.eq_of_beq_eq_true hop
      subst hl
      exact sm_ii (fun y x rest k => lv_iushr hx hb hdg rfl (by rw [hnx]; exact k)) e0 w lo okl oks kk
    | idiv =>
      have hl := Nat.eq_of_beq_eq_true hop
      subst hl
      exact sm_iid (fun y x rest hy k => lv_idiv hx hb hdg hy (by rw [hnx]; exact k)) e0 w lo okl oks kk
    | irem =>
      have hl := Nat.eq_of_beq_eq_true hop
      subst hl
      exact sm_iid (fun y x rest hy k => lv_irem hx hb hdg hy (by rw [hnx]; exact k)) e0 w lo okl oks kk
    | ineg =>
      have hl := Nat.eq_of_beq_eq_true hop
      subst hl
      exact sm_i (fun _ _ => by exact ⟨trivial, fun _ _ => rfl⟩) (fun x rest k => lv_ineg hx hb hdg (by rw [hnx]; exact k)) e0 w lo okl oks kk
    | i2l =>
      have hl := Nat.eq_of_beq_eq_true hop
      subst hl
      exact sm_i (fun _ _ => by exact ⟨trivial, fun _ _ => rfl⟩) (fun x rest k => lv_i2l hx hb hdg rfl (by rw [hnx]; exact k)) e0 w lo okl oks kk
    | i2b =>
      have hl := Nat.eq_of_beq_eq_true hop
      subst hl
      exact sm_i (fun _ _ => by exact ⟨trivial, fun _ _ => rfl⟩) (fun x rest k => lv_i2b hx hb hdg rfl (by rw [hnx]; exact k)) e0 w lo okl oks kk
    | i2s =>
      have hl := Nat.eq_of_beq_eq_true hop
      subst hl
      exact sm_i (fun _ _ => by exact ⟨trivial, fun _ _ => rfl⟩) (fun x rest k => lv_i2s hx hb hdg rfl (by rw [hnx]; exact k)) e0 w lo okl oks kk
    | ladd =>
      have hl := Nat.eq_of_beq_eq_true hop
      subst hl
      exact sm_ll (fun _ _ _ => by exact ⟨trivial, fun _ _ => rfl⟩) (fun y x rest k => lv_ladd hx hb hdg (by rw [hnx]; exact k)) e0 w lo okl oks kk
    | lsub =>
      have hl := Nat.eq_of_beq_eq_true hop
      subst hl
      exact sm_ll (fun _ _ _ => by exact ⟨trivial, fun _ _ => rfl⟩) (fun y x rest k => lv_lsub hx hb hdg (by rw [hnx]; exact k)) e0 w lo okl oks kk
    | lmul =>
      have hl := Nat.eq_of_beq_eq_true hop
      subst hl
      exact sm_ll (fun _ _ _ => by exact ⟨trivial, fun _ _ => rfl⟩) (fun y x rest k => lv_lmul hx hb hdg (by rw [hnx]; exact k)) e0 w lo okl oks kk
    | land =>
      have hl := Nat.eq_of_beq_eq_true hop
      subst hl
      exact sm_ll (fun _ _ _ => by exact ⟨trivial, fun _ _ => rfl⟩) (fun y x rest k => lv_land hx hb hdg (by rw [hnx]; exact k)) e0 w lo okl oks kk
    | lor =>
      have hl := Nat.eq_of_beq_eq_true hop
      subst hl
      exact sm_ll (fun _ _ _ => by exact ⟨trivial, fun _ _ => rfl⟩) (fun y x rest k => lv_lor hx hb hdg (by rw [hnx]; exact k)) e0 w lo okl oks kk
    | ldiv =>
      have hl := Nat.eq_of_beq_eq_true hop
      subst hl
      exact sm_lld (fun _ _ _ => by exact ⟨trivial, fun _ _ => rfl⟩) (fun y x rest hy k => lv_ldiv hx hb hdg hy (by rw [hnx]; exact k)) e0 w lo okl oks kk
    | lrem =>
      have hl := Nat.eq_of_beq_eq_true hop
      subst hl
      exact sm_lld (fun _ _ _ => by exact ⟨trivial, fun _ _ => rfl⟩) (fun y x rest hy k => lv_lrem hx hb hdg hy (by rw [hnx]; exact k)) e0 w lo okl oks kk
    | lneg =>
      have hl := Nat.eq_of_beq_eq_true hop
      subst hl
      exact sm_l (fun _ _ => by exact ⟨trivial, fun _ _ => rfl⟩) (fun x rest k => lv_lneg hx hb hdg (by rw [hnx]; exact k)) e0 w lo okl oks kk
    | l2i =>
      have hl := Nat.eq_of_beq_eq_true hop
      subst hl
      exact sm_l (fun _ _ => by exact ⟨trivial, fun _ _ => rfl⟩) (fun x rest k => lv_l2i hx hb hdg rfl (by rw [hnx]; exact k)) e0 w lo okl oks kk
    | lshl =>
      have hl := Nat.eq_of_beq_eq_true hop
      subst hl
      exact sm_li (fun _ _ _ => by exact ⟨trivial, fun _ _ => rfl⟩) (fun y x rest k => lv_lshl hx hb hdg rfl (by rw [hnx]; exact k)) e0 w lo okl oks kk
    | lcmp =>
      have hl := Nat.eq_of_beq_eq_true hop
      subst hl
      exact sm_ll (fun _ _ _ => by exact ⟨trivial, fun _ _ => rfl⟩) (fun y x rest k => W.lcmp hx hb hdg (by rw [hnx]; exact k)) e0 w lo okl oks kk
    | dup =>
      have hl := Nat.eq_of_beq_eq_true hop
      subst hl
      exact sm_dup (fun v rest hc k => lv_dup hx hb hdg hc (by rw [hnx]; exact k)) e0 w lo okl oks kk
    | pop =>
      have hl := Nat.eq_of_beq_eq_true hop
      subst hl
      exact sm_pop (fun v rest hc k => lv_pop hx hb hdg hc (by rw [hnx]; exact k)) e0 w lo okl oks kk
    | dup2 =>
      have hl := Nat.eq_of_beq_eq_true hop
      subst hl
      exact sm_dup2 (fun v z rest hc hd k => lv_dup2_11 hx hb hdg hc hd (by rw [hnx]; exact k)) e0 w lo okl oks kk
    | goto o =>
      simp only [opOk, Bool.and_eq_true, decide_eq_true_eq] at hop
      have hl := Nat.eq_of_beq_eq_true hop.1
      subst hl
      have ht := hop.2
      have e1 : some (aux, L, st, h) = some (pc', L', st', h1) := e0
      simp only [Option.some.injEq, Prod.mk.injEq] at e1; obtain ⟨rfl, rfl, rfl, rfl⟩ := e1
      exact lv_goto hx hb hdg ht (Kn.same kk w lo okl oks)
    | if_icmp op o =>
      simp only [opOk, Bool.and_eq_true, decide_eq_true_eq] at hop
      have hl := Nat.eq_of_beq_eq_true hop.1
      subst hl
      have ht := hop.2
      exact sm_icmp (fun y x rest k => icmp_row hx hb op hdg ht (by rw [hnx]; exact k)) e0 w lo okl oks kk
    | ifCond op o =>
      simp only [opOk, Bool.and_eq_true, decide_eq_true_eq] at hop
      have hl := Nat.eq_of_beq_eq_true hop.1
      subst hl
      have ht := hop.2
      exact sm_if (fun x rest k => if_row hx hb op hdg ht (by rw [hnx]; exact k)) e0 w lo okl oks kk
    | ifnull o =>
      simp only [opOk, Bool.and_eq_true, decide_eq_true_eq] at hop
      have hl := Nat.eq_of_beq_eq_true hop.1
      subst hl
      have ht := hop.2
      exact sm_ifnull (fun rest k => lv_ifnullN hx hb hdg ht k) (fun x rest k => lv_ifnull hx hb hdg (by rw [hnx]; exact k)) e0 w lo okl oks kk
    | ifnonnull o =>
      simp only [opOk, Bool.and_eq_true, decide_eq_true_eq] at hop
      have hl := Nat.eq_of_beq_eq_true hop.1
      subst hl
      have ht := hop.2
      exact sm_ifnn (fun rest k => lv_ifnonnullN hx hb hdg (by rw [hnx]; exact k)) (fun x rest k => lv_ifnonnull hx hb hdg ht k) e0 w lo okl oks kk
    | tableswitch d lo0 hi0 offs =>
      simp only [opOk, Bool.and_eq_true, decide_eq_true_eq] at hop
      exact sm_sw (fun x rest k => sw_row hx hb hdg hop.1 hop.2 k) e0 w lo okl oks kk
    | getfield i =>
      cases sw with
      | nil => simp [opOk] at hop
      | cons q sw =>
        obtain ⟨c0, z0⟩ := q
        simp only [opOk, Bool.and_eq_true, decide_eq_true_eq] at hop
        have hl := Nat.eq_of_beq_eq_true hop.1
        subst hl
        exact sm_get cx hown hop.2 hdg hnx e0 w lo okl oks kk
    | putfield i =>
      cases sw with
      | nil => simp [opOk] at hop
      | cons q sw =>
        obtain ⟨c0, z0⟩ := q
        simp only [opOk, Bool.and_eq_true, Bool.or_eq_true, decide_eq_true_eq] at hop
        have hl := Nat.eq_of_beq_eq_true hop.1
        subst hl
        refine sm_put cx hown hop.2.1 ?_ hdg hnx e0 w lo okl oks kk
        rcases hop.2.2 with hq | ⟨hq1, hq2⟩
        · exact Or.inl (by simpa using hq)
        · exact Or.inr ⟨hini hq1, Nat.eq_of_beq_eq_true hq2⟩
    | iaload =>
      have hl := Nat.eq_of_beq_eq_true hop
      subst hl
      exact sm_iald cx hdg hnx e0 w lo okl oks kk
    | laload =>
      have hl := Nat.eq_of_beq_eq_true hop
      subst hl
      exact sm_lald cx hdg hnx e0 w lo okl oks kk
    | aaload =>
      have hl := Nat.eq_of_beq_eq_true hop
      subst hl
      exact sm_aald cx hdg hnx e0 w lo okl oks kk
    | iastore =>
      have hl := Nat.eq_of_beq_eq_true hop
      subst hl
      exact sm_iast cx hdg hnx e0 w lo okl oks kk
    | lastore =>
      have hl := Nat.eq_of_beq_eq_true hop
      subst hl
      exact sm_last cx hdg hnx e0 w lo okl oks kk
    | aastore =>
      have hl := Nat.eq_of_beq_eq_true hop
      subst hl
      exact sm_aast cx hdg hnx e0 w lo okl oks kk
    | arraylength =>
      have hl := Nat.eq_of_beq_eq_true hop
      subst hl
      exact sm_len cx hdg hnx e0 w lo okl oks kk
    | newarray t =>
      simp only [opOk, Bool.and_eq_true, Bool.or_eq_true, decide_eq_true_eq] at hop
      have hl := Nat.eq_of_beq_eq_true hop.1
      subst hl
      rcases hop.2 with ⟨rfl, hq⟩ | ⟨rfl, hq⟩
      · have hq := Nat.eq_of_beq_eq_true hq
        subst hq
        exact sm_newa (ty := .int) cx hdg hnx (Or.inl ⟨rfl, rfl, rfl⟩) e0 hrm w lo okl oks kk
      · have hq := Nat.eq_of_beq_eq_true hq
        subst hq
        exact sm_newa (ty := .long) cx hdg hnx (Or.inr ⟨rfl, rfl, rfl⟩) e0 hrm w lo okl oks kk
    | anewarray i =>
      simp only [opOk, Bool.and_eq_true, decide_eq_true_eq] at hop
      have hl := Nat.eq_of_beq_eq_true hop.1
      subst hl
      exact sm_newq cx hown hop.2 hdg hnx e0 hrm w lo okl oks kk
    | new i =>
      simp only [opOk, Bool.and_eq_true, decide_eq_true_eq, Nat.blt_eq] at hop
      have hl := Nat.eq_of_beq_eq_true hop.1.1
      subst hl
      exact sm_new cx hown hop.1.2 hop.2 hdg hnx e0 hrm w lo okl oks kk
    | invokespecial i =>
      have h998 : aux = 998 := by
        unfold kindI at hk
        simp only at hk
        cases h9 : Nat.beq aux 998 with
        | true => exact Nat.eq_of_beq_eq_true h9
        | false => rw [h9] at hk; cases hk
      subst h998
      simp only [opOk, Bool.and_eq_true, Bool.or_eq_true, decide_eq_true_eq] at hop
      have hl := Nat.eq_of_beq_eq_true hop.1
      subst hl
      rcases hop.2 with ⟨hq, -⟩ | ⟨-, hq⟩
      · exact sm_obj cx hown hq hdg hnx e0 w lo okl oks kk
      · exfalso; revert hq; decide
    | invokestatic i =>
      have h990 : Nat.ble 990 aux = true := by
        unfold kindI at hk
        simp only at hk
        cases h9 : Nat.ble 990 aux with
        | true => rfl
        | false => rw [h9] at hk; cases hk
      simp only [opOk, Bool.and_eq_true, Bool.or_eq_true, decide_eq_true_eq] at hop
      have hl := Nat.eq_of_beq_eq_true hop.1
      subst hl
      rcases hop.2 with ⟨⟨hq, -⟩, -⟩ | ⟨-, hq⟩
      · exact sm_nat cx hrc hown hq hdg hnx e0 w lo okl oks kk
      · exfalso
        rw [sg_big (Nat.le_of_ble_eq_true h990)] at hq
        cases hq
    | _ => exact nomatch (show (none : Rs) = some _ from e0)
  · cases hrow
end SIM6
