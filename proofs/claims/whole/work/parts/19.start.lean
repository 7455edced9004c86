/-! THE CLAIM OUT OF ONE WALK OF THE LAW'S BODY. Your part is whole_start (and what it stands on); all else here is the same for every law, but numbers. -/
def R_law : String := "MinorTablesLaw"
def lw_P (b : Addr) (xs : List Int32) (args : Array Value) (s : State) : Prop := args = #[.ref b] ∧ s.IntsAt b xs ∧ xs.length ≤ 3072 ∧ (Jvm.Cond.and given_1 narrow_1).before args s = true
def lw_Q (_ : Array Value) (s : State) (o : Outcome) (t : State) : Prop := o = .returned (some (.int 1)) ∧ Framed s o t [] 600000 7302250
def lw_Z (below : List Frame) (a : Array Value) (s : State) : State → Prop := fun t => ∃ o, t.status = .running ∧ Ended t below o ∧ lw_Q a s o t
/-- the law's own end, with 1 on the stack, nothing written that was there before, its room as the claim has it -/
theorem lw_ret {p : Program} {l : Launch} {e : Env} {s : State} {m : MethodId} {below : List Frame} {meth : Method} {c : Code} {b : Nat} (hx : p.tables.exec = Jvm.exec) (hb : c.code = code) (hr : meth.sig.returnType = ret) (hlocks : meth.locks = false) {pc : Nat} {H : Heap} {ls : Array Slot} (hdg : decode code pc = .ok (.ireturn, 1)) : W p l e room_1 s m #[Value.ref b] below meth c H [] 600000 7302250 (lw_Z below #[Value.ref b] s) (F0 m pc ls [.int 1]) := by
  intro T hT X
  obtain ⟨fs, hret, hrun, hended, hW, hframe⟩ := X.leave (v := some (.int 1)) (hlocks := hlocks) (fun h => by rw [hr] at h; cases h)
  have hmeth' : T.vm.method? m = some meth := X.method'
  refine ⟨T.setFrames fs, ?_, .returned (some (.int 1)), hrun, hended, rfl, ⟨_, rfl⟩, hW, hframe⟩
  jvm_step X.here [X.here.top, hx, hb, hdg, hmeth', hr, ret, narrow_b1]
  (try refine ⟨rfl, ?_⟩); (try refine ⟨rfl, ?_⟩)
  first | (intro acts; rw [hret _ acts rfl rfl rfl]) | rw [hret _ _ rfl rfl rfl]
  exact Steps.refl _
/-- what holds at the law's entry: the machine, the code, the tables' words (any of lw_tbl by 'hts w (by decide +kernel)'), the script of L ints xs at the cell b, what the Statement gives of the start (any of its parts by flat_of_before) -/
def lw_At (p : Program) (s : State) (m : MethodId) (meth : Method) (c : Code) (b L : Nat) (xs : Nat → Int32) : Prop :=
  p.tables.exec = Jvm.exec ∧ c.code = code ∧ meth.sig.returnType = ret ∧ c.maxLocals = 4 ∧ s.vm.findClass R_law = some m.cls ∧ (∀ w ∈ lw_tbl, w.before #[Value.ref b] s = true) ∧ va_X b L xs s s.heap ∧ b < s.heap.size ∧ meth.locks = false ∧ (Jvm.Cond.and given_1 narrow_1).before #[Value.ref b] s = true
/-- what is left: a run of the law, over cells that are places in a list -/
def PureLaw : Prop := ∀ (L : Nat) (xs : Nat → Int32), L ≤ 3072 → ∃ (k : Nat) (h' : Hp), zrun k 1000 213 0 [some (.ref 0), none, none, none] [] [(103, scrV L xs)] = some (some (.int 1), h') ∧ h'.length ≤ 600000 ∧ slt h' ≤ 7302250
theorem whole_open (hpure : PureLaw) {p : Program} {e : Env} {s : State} {m : MethodId} {below : List Frame} {meth : Method} {c : Code} (l : Launch) (hflags : l.flags = flags0) {b L : Nat} {xs : Nat → Int32} (hL : L ≤ 3072) (C0 : lw_At p s m meth c b L xs) : W p l e room_1 s m #[Value.ref b] below meth c s.heap [] 0 0 (lw_Z below #[Value.ref b] s) (entryFrame m ([Value.ref b] : List Value).toArray 4) := by
  obtain ⟨hx, hb, hr, hml, hown, hts, hX, hbl, hlocks, hgv⟩ := id C0
  obtain ⟨k, h', hrun, hz1, hz2⟩ := hpure L xs hL
  have htz : ∀ w ∈ zt, w.before #[Value.ref b] s = true := fun w hw => hts w (List.mem_filter.mp hw).1
  have hA : ∀ q : Nat, s.heap.size ≤ q → (fun q : Nat => s.heap.size ≤ q) q := fun _ h => h
  have hbA : ¬ (fun q : Nat => s.heap.size ≤ q) b := Nat.not_le.mpr hbl
  have hKn : ∀ t : Nat, ∃ (cC : ClassId) (iS : Nat → Nat), ∀ q : vw_C, vcl[t]? = some q → u_Kn s q.1 q.2.1 q.2.2 cC iS := by
    intro t
    cases hq : vcl[t]? with
    | none => exact ⟨default, fun _ => 0, fun q h => by cases h⟩
    | some q =>
      obtain ⟨C, T, N⟩ := q
      have v7 := vws hq
      obtain ⟨cC, iS, hk⟩ := u_known (C := C) (T := T) (N := N) (n := N) htz v7.1 (htz _ v7.2.1)
      exact ⟨cC, iS, fun q h => by cases h; exact hk⟩
  obtain ⟨dC, hKn⟩ := Classical.axiomOfChoice hKn
  obtain ⟨dI, hKn⟩ := Classical.axiomOfChoice hKn
  have hS : va_S (fun q : Nat => s.heap.size ≤ q) s.heap s.heap [] := va_S.rf
  have hK : va_K (dC, dI) vcl [] s := ⟨fun t q h => hKn t q h, fun k q h => by simp at h⟩
  have hP : va_P (dC, dI) vcl [] s.heap := fun k q h => by simp at h
  have hD : va_D (fun q : Nat => s.heap.size ≤ q) [] := ⟨fun i j p q h => by simp at h, fun k q h => by simp at h⟩
  have pw : PW b L xs [(103, scrV L xs)] [] [] [] := by
    refine ⟨rfl, rfl, rfl, (fun i t vs h => by (cases i <;> cases h)), ?_⟩
    intro i t vs h
    cases i with
    | zero =>
      simp only [nth, Option.some.injEq, Prod.mk.injEq] at h
      rw [← h.2]
      intro v hv
      unfold scrV at hv
      obtain ⟨j, -, rfl⟩ := List.mem_map.mp hv
      trivial
    | succ i => cases i <;> cases h
  have hok : okS 1 [Value.ref 0] := fun v hv => by
    rcases List.mem_cons.mp hv with rfl | hv
    · exact Nat.zero_lt_one
    · cases hv
  have hent : entL 213 [Value.ref 0] = some [some (.ref 0), none, none, none] := rfl
  have lo := ent_LO (b := b) (as := []) hok hent (show mi 213 = some (1, 4, []) from rfl)
  have hav : [Value.ref 0].map (zcv b []) = [Value.ref b] := rfl
  rw [hav] at lo
  rw [lg_entry_eq]
  have hlaw := law_row
  refine sim l k 1000 213 0 _ [] _ _ h' hrun (by decide) _ _ _ _ _ hlaw (as := []) (ws := []) (tys := []) (D := (dC, dI)) (b := b) (Lx := L) (xs := xs) ⟨hx, hb, hml, hown, htz, hX, hbl, hbA, hA, Nat.le_of_ble_eq_true rfl, Nat.le_of_ble_eq_true rfl⟩ (fun h => absurd h (by decide)) (Nat.le_of_ble_eq_true rfl) (Nat.le_of_ble_eq_true rfl) (by show 0 + (h'.length - 1) ≤ 600000; omega) (by show 0 + _ ≤ 7302250; omega) (Wd.mk hK hP hD hS pw) lo (ent_ok hok hent) (fun _ h => by cases h) ?_
  intro ex ws' tys' H' locs' ls' pc' st' a' w' hc' hr' ok'
  obtain ⟨oc, -, hrow⟩ := rows_ok (by decide) hlaw hc'
  obtain ⟨ins, nx, aux, neg, sw⟩ := a'
  unfold retI at hr'
  simp only at hr'
  split at hr'
  case h_2 => cases hr'
  case h_3 => cases hr'
  case h_4 => cases hr'
  case h_5 => cases hr'
  case h_6 => cases hr'
  case h_1 x =>
  simp only [cond_eq_ite] at hr'
  split at hr'
  case isFalse => cases hr'
  case isTrue =>
  simp only [Option.some.injEq, Value.int.injEq] at hr'
  subst hr'
  unfold rowOk at hrow
  simp only at hrow
  split at hrow
  case h_2 => cases hrow
  case h_1 i len hdg =>
  simp only [Bool.and_eq_true, decide_eq_true_eq] at hrow
  obtain ⟨rfl, -, hop⟩ := hrow
  simp only [opOk, Bool.and_eq_true] at hop
  have hl := Nat.eq_of_beq_eq_true hop.1
  subst hl
  refine va_forget (fun q hq => w'.2.2.2.1.2.2 q hq) ?_
  refine W.widen (k := 600000) (n := 7302250) (by show 0 + (h'.length - 1) ≤ 600000; omega) (by show 0 + _ ≤ 7302250; omega) ?_
  exact lw_ret hx hb hr hlocks hdg
