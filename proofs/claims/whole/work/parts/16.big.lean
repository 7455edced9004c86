/-! THE BRIDGE: a run that ends is a run of the machine that ends so -/
def LK : Nat := 40
/-- the pure part of a world -/
def PW (b Lx : Nat) (xs : Nat → Int32) (h : Hp) (as : List Nat) (ws : va_W) (tys : List (ClassId × FieldType)) : Prop :=
  ws.map (fun q => q.1) = as ∧ h.length = as.length + 1 ∧ nth h 0 = some (103, scrV Lx xs) ∧
  (∀ (i t : Nat) (vs : List Value), nth h (i + 1) = some (t, vs) → ∃ (q : Nat) (e : va_E), ws[i]? = some (q, e) ∧ cr b as tys t vs e) ∧
  (∀ (i t : Nat) (vs : List Value), nth h i = some (t, vs) → okS h.length vs)
theorem Wd.mk {D : va_G} {s : State} {A : Nat → Prop} {H0 : Heap} {b Lx : Nat} {xs : Nat → Int32} {h : Hp} {as : List Nat} {ws : va_W} {tys : List (ClassId × FieldType)} {H : Heap} {locs : List Loc} (hK : va_K D vcl tys s) (hP : va_P D vcl ws H) (hD : va_D A ws) (hS : va_S A H0 H locs) (pw : PW b Lx xs h as ws tys) : Wd D s A H0 b Lx xs h as ws tys H locs := ⟨hK, hP, hD, hS, pw⟩
def okO (n : Nat) (v : Option Value) : Prop := ∀ x, v = some x → okV n x
/-- a method's start, and its end -/
def zPc (D : va_G) (b Lx : Nat) (xs : Nat → Int32) (as : List Nat) (ws : va_W) (tys : List (ClassId × FieldType)) (sz : Nat) (av : List Value) : Array Value → State → Prop := fun v U => v = av.toArray ∧ U.heap.size = sz ∧ va_P D vcl ws U.heap ∧ va_K D vcl tys U ∧ va_D (fun _ => True) ws ∧ va_X b Lx xs U U.heap ∧ XW U
def zQc (D : va_G) (b Lx : Nat) (xs : Nat → Int32) (as : List Nat) (ws : va_W) (sz : Nat) (v : Option Value) (h' : Hp) : Array Value → State → Outcome → State → Prop := fun _ st oc t =>
  (∃ (ex : List Nat) (ws1 : va_W) (tys1 : List (ClassId × FieldType)), oc = .returned (v.map (zcv b (as ++ ex))) ∧ va_K D vcl tys1 t ∧ va_P D vcl ws1 t.heap ∧ va_D (va_A ws sz) ws1 ∧ PW b Lx xs h' (as ++ ex) ws1 tys1 ∧ okO h'.length v) ∧ va_F (va_A ws sz) st t
theorem zPc_blind {D : va_G} {b Lx : Nat} {xs : Nat → Int32} {as : List Nat} {ws : va_W} {tys : List (ClassId × FieldType)} {sz : Nat} {av : List Value} : FrameBlind (zPc D b Lx xs as ws tys sz av) := by
  intro a U g mk ⟨h1, h2, h3, h4, h5, h6, h7⟩
  exact ⟨h1, h2, h3, va_K.moved (u := U) (U := U.calling g mk a) (Vm.Alike.refl U.vm) h4, h5, va_X.moved (u := U) (U := U.calling g mk a) (Vm.Alike.refl U.vm) h6, XW.same (s := U) (U := U.calling g mk a) rfl h7⟩
theorem retI_ok {a : AI} {st : List Value} {v : Option Value} {n : Nat} (h : retI a st = some v) (ok : okS n st) : okO n v := by
  unfold retI at h
  split at h
  · simp only [cond_eq_ite] at h
    split at h
    · simp only [Option.some.injEq] at h; subst h; intro x hx; simp only [Option.some.injEq] at hx; subst hx; trivial
    · cases h
  · simp only [Option.some.injEq] at h; subst h; intro x hx; simp only [Option.some.injEq] at hx; subst hx; trivial
  · simp only [Option.some.injEq] at h; subst h; intro x hx; simp only [Option.some.injEq] at hx; subst hx; exact ok _ List.mem_cons_self
  · simp only [Option.some.injEq] at h; subst h; intro x hx; simp only [Option.some.injEq] at hx; subst hx; trivial
  · simp only [Option.some.injEq] at h; subst h; intro x hx; cases hx
  · cases h
theorem W.num {p : Program} {l : Launch} {e : Env} {R : Room} {s : State} {m : MethodId} {args : Array Value} {below : List Frame} {meth : Method} {c : Code} {H : Heap} {locs : List Loc} {cells slots cells' slots' : Nat} {Q : State → Prop} {g : JFrame} (h : W p l e R s m args below meth c H locs cells slots Q g) (h1 : cells = cells') (h2 : slots = slots') : W p l e R s m args below meth c H locs cells' slots' Q g := by
  subst h1; subst h2; exact h
theorem mrl_mem {o i : Nat} : ∀ {l : List (Nat × Nat × Nat × Bool × Nat)} {u : Nat} {n : Bool}, mrl o i l = some (u, n) → ∃ q, (o, i, u, n, q) ∈ l
  | [], u, n, h => by cases h
  | (a, b, u', n', q) :: l, u, n, h => by
    unfold mrl at h
    cases hb : (Nat.beq a o && Nat.beq b i) with
    | true =>
      rw [hb] at h
      simp only [cond_true, Option.some.injEq, Prod.mk.injEq] at h
      simp only [Bool.and_eq_true] at hb
      obtain ⟨rfl, rfl⟩ := h
      have h1 := Nat.eq_of_beq_eq_true hb.1
      have h2 := Nat.eq_of_beq_eq_true hb.2
      subst h1 h2
      exact ⟨q, List.mem_cons_self⟩
    | false =>
      rw [hb] at h
      obtain ⟨q, hq⟩ := mrl_mem h
      exact ⟨q, List.mem_cons_of_mem _ hq⟩
theorem mrl_ok {o i u : Nat} {n : Bool} (h : mrl o i mrt = some (u, n)) : if n = true then Cond.methodLinkNest (cn o) i (yof u) "MinorTables" ∈ zt else Cond.methodLink (cn o) i (yof u) ∈ zt := by
  obtain ⟨q, hq⟩ := mrl_mem h
  have := List.all_eq_true.mp mrt_ok _ hq
  cases n with
  | true => exact lw_at_mem this
  | false => exact lw_at_mem this
theorem mrt_lt : mrt.all (fun e => Nat.blt e.2.2.1 214) = true := by decide +kernel
theorem mrl_lt {o i u : Nat} {n : Bool} (h : mrl o i mrt = some (u, n)) : u < 214 := by
  obtain ⟨q, hq⟩ := mrl_mem h
  have := List.all_eq_true.mp mrt_lt _ hq
  exact Nat.blt_eq.mp this
/-- what a method is, by its tables -/
theorem sg_spec {u : Nat} (hu : u < 214) {y : MethodName} {bb : ByteArray} {mx : Nat} {r : Option FieldType} {kd pc0 pi ps pn : Nat} (h : sg u = some (y, bb, mx, r, kd, pc0, pi, ps, pn)) : ∃ (n : Nat) (tg : List Nat), mi u = some (n, mx, tg) ∧ mx ≤ 12 ∧ y.cls ≠ "java/lang/invoke/MethodHandle" ∧ y.cls ≠ "java/lang/invoke/VarHandle" ∧ plainName y.cls = true ∧
    (kd = 0 → Cond.initialized y.cls ∈ zt ∧ Cond.static y ∈ zt ∧ argN y = some n ∧ tg = []) ∧
    (kd = 1 → Cond.initialized y.cls ∈ zt ∧ Cond.instanceMethod y ∈ zt ∧ Cond.selects y.cls y y ∈ zt ∧ argN y = some (n - 1) ∧ 0 < n ∧ ∃ c0, tg = [c0] ∧ c0 < 8 ∧ y.cls = cn c0) ∧
    (kd = 2 → Cond.initialized y.cls ∈ zt ∧ Cond.instanceMethod y ∈ zt ∧ y.name = "<init>" ∧ r = none ∧ argN y = some (n - 1) ∧ 0 < n ∧ ∃ c0, tg = [c0] ∧ c0 < 8 ∧ y.cls = cn c0) := by
  have hk := sg_okA hu
  unfold sgOk at hk
  rw [h] at hk
  cases hm : mi u with
  | none => rw [hm] at hk; cases hk
  | some q =>
    obtain ⟨n, mx', tg⟩ := q
    rw [hm] at hk
    simp only [Bool.and_eq_true, decide_eq_true_eq] at hk
    obtain ⟨⟨⟨⟨⟨h1, h2⟩, h3⟩, h4⟩, h5⟩, h6⟩ := hk
    have h1 := Nat.eq_of_beq_eq_true h1
    subst h1
    refine ⟨n, tg, rfl, Nat.le_of_ble_eq_true h2, h3, h4, h5, ?_, ?_, ?_⟩
    · rintro rfl
      simp only [Bool.and_eq_true, decide_eq_true_eq] at h6
      exact ⟨lw_at_mem h6.1.1.1, lw_at_mem h6.1.1.2, h6.1.2, h6.2⟩
    · rintro rfl
      simp only [Bool.and_eq_true, decide_eq_true_eq, Nat.blt_eq] at h6
      obtain ⟨⟨⟨⟨⟨g1, g2⟩, g3⟩, g4⟩, g5⟩, g6⟩ := h6
      refine ⟨lw_at_mem g1, lw_at_mem g2, lw_at_mem g3, g4, g5, ?_⟩
      split at g6
      · rename_i c0
        simp only [Bool.and_eq_true, decide_eq_true_eq, Nat.blt_eq] at g6
        exact ⟨c0, rfl, g6.1, g6.2⟩
      · cases g6
    · rintro rfl
      simp only [Bool.and_eq_true, decide_eq_true_eq, Nat.blt_eq] at h6
      obtain ⟨⟨⟨⟨⟨⟨g1, g2⟩, g3⟩, g4⟩, g5⟩, g6⟩, g7⟩ := h6
      refine ⟨lw_at_mem g1, lw_at_mem g2, g3, g4, g5, g6, ?_⟩
      split at g7
      · rename_i c0
        simp only [Bool.and_eq_true, decide_eq_true_eq, Nat.blt_eq] at g7
        exact ⟨c0, rfl, g7.1, g7.2⟩
      · cases g7
