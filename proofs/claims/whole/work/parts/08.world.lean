/-! the world of a run, and what a step of it is in the machine -/
def scrV (Lx : Nat) (xs : Nat → Int32) : List Value := (List.range Lx).map (fun j => .int (xs j))
def slt (h : Hp) : Nat := (h.map (fun q => q.2.length)).sum
def cr (b : Nat) (as : List Nat) (tys : List (ClassId × FieldType)) (t : Nat) (vs : List Value) (e : va_E) : Prop :=
  (t < 8 ∧ e = .inr (t, vs.map (zcv b as))) ∨
  (t = 100 ∧ ∃ (cA : ClassId) (f : Nat → Int32) (t0 : Nat), e = .inl (cA, vs.length, .inl f) ∧ tys[t0]? = some (cA, .int) ∧ ∀ (j : Nat) (v : Value), nth vs j = some v → v = .int (f j)) ∨
  (t = 101 ∧ ∃ (cA : ClassId) (f : Nat → Int64) (t0 : Nat), e = .inl (cA, vs.length, .inr (.inl f)) ∧ tys[t0]? = some (cA, .long) ∧ ∀ (j : Nat) (v : Value), nth vs j = some v → v = .long (f j)) ∨
  (t = 102 ∧ ∃ (cA : ClassId) (f : Nat → Option Nat) (t0 : Nat), e = .inl (cA, vs.length, .inr (.inr (.inr (.inr f)))) ∧ tys[t0]? = some (cA, .object "MinorTables$Tape") ∧ ∀ (j : Nat) (v : Value), nth vs j = some v → zcv b as v = va_rf (f j))
def Wd (D : va_G) (s : State) (A : Nat → Prop) (H0 : Heap) (b Lx : Nat) (xs : Nat → Int32) (h : Hp) (as : List Nat) (ws : va_W) (tys : List (ClassId × FieldType)) (H : Heap) (locs : List Loc) : Prop :=
  va_K D vcl tys s ∧ va_P D vcl ws H ∧ va_D A ws ∧ va_S A H0 H locs ∧ ws.map (fun q => q.1) = as ∧ h.length = as.length + 1 ∧ nth h 0 = some (103, scrV Lx xs) ∧
  (∀ (i t : Nat) (vs : List Value), nth h (i + 1) = some (t, vs) → ∃ (q : Nat) (e : va_E), ws[i]? = some (q, e) ∧ cr b as tys t vs e) ∧
  (∀ (i t : Nat) (vs : List Value), nth h i = some (t, vs) → okS h.length vs)
def Cx (p : Program) (R : Room) (m : MethodId) (c : Code) (s : State) (args : Array Value) (cc : ByteArray) (nL : Nat) (own : String) (b Lx : Nat) (xs : Nat → Int32) (A : Nat → Prop) (H0 : Heap) : Prop :=
  p.tables.exec = Jvm.exec ∧ c.code = cc ∧ c.maxLocals = nL ∧ s.vm.findClass own = some m.cls ∧ (∀ w ∈ zt, w.before args s = true) ∧ va_X b Lx xs s H0 ∧ b < H0.size ∧ ¬ A b ∧ (∀ q, H0.size ≤ q → A q) ∧ 1 ≤ R.frames ∧ 40 ≤ R.locals
def Kn (p : Program) (l : Launch) (e : Env) (R : Room) (s : State) (m : MethodId) (args : Array Value) (below : List Frame) (meth : Method) (c : Code) (Qm : State → Prop) (D : va_G) (A : Nat → Prop) (H0 : Heap) (b Lx nL : Nat) (xs : Nat → Int32) (as : List Nat) (n0 s0 cells slots : Nat) (h1 : Hp) (L' : Lc) (st' : List Value) (pc' : Nat) : Prop :=
  ∀ (ex : List Nat) (ws : va_W) (tys : List (ClassId × FieldType)) (H : Heap) (locs : List Loc) (ls : Array Slot), Wd D s A H0 b Lx xs h1 (as ++ ex) ws tys H locs → LO ls nL b (as ++ ex) L' → okLc h1.length L' → okS h1.length st' → W p l e R s m args below meth c H locs (cells + (h1.length - n0)) (slots + (slt h1 - s0)) Qm (F0 m pc' ls (st'.map (zcv b (as ++ ex))))
section SIM1
variable {p : Program} {l : Launch} {e : Env} {R : Room} {s : State} {m : MethodId} {args : Array Value} {below : List Frame} {meth : Method} {c : Code} {Qm : State → Prop} {D : va_G} {A : Nat → Prop} {H0 : Heap} {b Lx nL : Nat} {xs : Nat → Int32} {own : String} {cc : ByteArray}
variable {as : List Nat} {ws : va_W} {tys : List (ClassId × FieldType)} {H : Heap} {locs : List Loc} {cells slots : Nat} {ls : Array Slot} {L L' : Lc} {st st' : List Value} {h h1 : Hp} {pc pc' nx : Nat}
theorem Kn.same (kk : Kn p l e R s m args below meth c Qm D A H0 b Lx nL xs as h.length (slt h) cells slots h L' st' pc') (w : Wd D s A H0 b Lx xs h as ws tys H locs) (lo : LO ls nL b as L') (okl : okLc h.length L') (oks : okS h.length st') : W p l e R s m args below meth c H locs cells slots Qm (F0 m pc' ls (st'.map (zcv b as))) := by
  have := kk [] ws tys H locs ls (by rw [List.append_nil]; exact w) (by rw [List.append_nil]; exact lo) okl oks
  simpa using this
theorem Kn.samed (kk : Kn p l e R s m args below meth c Qm D A H0 b Lx nL xs as h.length (slt h) cells slots h1 L' st' pc') (hl : h1.length = h.length) (hs : slt h1 = slt h) (w : Wd D s A H0 b Lx xs h1 as ws tys H locs) (lo : LO ls nL b as L') (okl : okLc h.length L') (oks : okS h.length st') : W p l e R s m args below meth c H locs cells slots Qm (F0 m pc' ls (st'.map (zcv b as))) := by
  have := kk [] ws tys H locs ls (by rw [List.append_nil]; exact w) (by rw [List.append_nil]; exact lo) (by rw [hl]; exact okl) (by rw [hl]; exact oks)
  rw [hl, hs] at this
  simpa using this
theorem sm_ldi {i : Nat} (hrow : ∀ x : Int32, ls[i]? = some (.val (.int x)) → W p l e R s m args below meth c H locs cells slots Qm (F0 m nx ls (.int x :: st.map (zcv b as))) → W p l e R s m args below meth c H locs cells slots Qm (F0 m pc ls (st.map (zcv b as)))) (e0 : s_ldi i nx L st h = some (pc', L', st', h1)) (w : Wd D s A H0 b Lx xs h as ws tys H locs) (lo : LO ls nL b as L) (okl : okLc h.length L) (oks : okS h.length st) (kk : Kn p l e R s m args below meth c Qm D A H0 b Lx nL xs as h.length (slt h) cells slots h1 L' st' pc') : W p l e R s m args below meth c H locs cells slots Qm (F0 m pc ls (st.map (zcv b as))) := by
  unfold s_ldi at e0
  split at e0
  · rename_i x hx
    simp only [Option.some.injEq, Prod.mk.injEq] at e0; obtain ⟨rfl, rfl, rfl, rfl⟩ := e0
    exact hrow x (lo.at hx) (Kn.same kk w lo okl (List.forall_mem_cons.mpr ⟨okl _ _ hx, oks⟩))
  · cases e0
theorem sm_ldl {i : Nat} (hrow : ∀ x : Int64, ls[i]? = some (.val (.long x)) → W p l e R s m args below meth c H locs cells slots Qm (F0 m nx ls (.long x :: st.map (zcv b as))) → W p l e R s m args below meth c H locs cells slots Qm (F0 m pc ls (st.map (zcv b as)))) (e0 : s_ldl i nx L st h = some (pc', L', st', h1)) (w : Wd D s A H0 b Lx xs h as ws tys H locs) (lo : LO ls nL b as L) (okl : okLc h.length L) (oks : okS h.length st) (kk : Kn p l e R s m args below meth c Qm D A H0 b Lx nL xs as h.length (slt h) cells slots h1 L' st' pc') : W p l e R s m args below meth c H locs cells slots Qm (F0 m pc ls (st.map (zcv b as))) := by
  unfold s_ldl at e0
  split at e0
  · rename_i x hx
    simp only [Option.some.injEq, Prod.mk.injEq] at e0; obtain ⟨rfl, rfl, rfl, rfl⟩ := e0
    exact hrow x (lo.at hx) (Kn.same kk w lo okl (List.forall_mem_cons.mpr ⟨okl _ _ hx, oks⟩))
  · cases e0
theorem sm_lda {i : Nat} (hrow : ∀ x : Nat, ls[i]? = some (.val (.ref x)) → W p l e R s m args below meth c H locs cells slots Qm (F0 m nx ls (.ref x :: st.map (zcv b as))) → W p l e R s m args below meth c H locs cells slots Qm (F0 m pc ls (st.map (zcv b as)))) (hrow2 : ls[i]? = some (.val .null) → W p l e R s m args below meth c H locs cells slots Qm (F0 m nx ls (.null :: st.map (zcv b as))) → W p l e R s m args below meth c H locs cells slots Qm (F0 m pc ls (st.map (zcv b as)))) (e0 : s_lda i nx L st h = some (pc', L', st', h1)) (w : Wd D s A H0 b Lx xs h as ws tys H locs) (lo : LO ls nL b as L) (okl : okLc h.length L) (oks : okS h.length st) (kk : Kn p l e R s m args below meth c Qm D A H0 b Lx nL xs as h.length (slt h) cells slots h1 L' st' pc') : W p l e R s m args below meth c H locs cells slots Qm (F0 m pc ls (st.map (zcv b as))) := by
  unfold s_lda at e0
  split at e0
  · rename_i x hx
    simp only [Option.some.injEq, Prod.mk.injEq] at e0; obtain ⟨rfl, rfl, rfl, rfl⟩ := e0
    exact hrow _ (lo.at hx) (Kn.same kk w lo okl (List.forall_mem_cons.mpr ⟨okl _ _ hx, oks⟩))
  · rename_i hx
    simp only [Option.some.injEq, Prod.mk.injEq] at e0; obtain ⟨rfl, rfl, rfl, rfl⟩ := e0
    exact hrow2 (lo.at hx) (Kn.same kk w lo okl (List.forall_mem_cons.mpr ⟨okl _ _ hx, oks⟩))
  · cases e0
theorem okl_st1 {n i : Nat} {L : Lc} {v : Value} (h : okLc n L) (hv : okV n v) : okLc n (st1 L i v) := fun j w hw => (st1_nth hw).elim (fun z => by rw [z]; exact hv) (fun z => h j w z)
theorem okl_st2 {n i : Nat} {L : Lc} {v : Value} (h : okLc n L) (hv : okV n v) : okLc n (st2 L i v) := fun j w hw => (st2_nth hw).elim (fun z => by rw [z]; exact hv) (fun z => h j w z)
theorem sm_sti {i : Nat} (hrow : ∀ (x : Int32) (rest : List Value), lv_has ls nL (Lz b as L) → i < nL → (∀ ls' : Array Slot, lv_has ls' nL ((i, .int x) :: (Lz b as L).filter (fun q => !(q.1 == i) && !(q.1 + 1 == i && q.2.category == 2))) → W p l e R s m args below meth c H locs cells slots Qm (F0 m nx ls' rest)) → W p l e R s m args below meth c H locs cells slots Qm (F0 m pc ls (.int x :: rest))) (e0 : s_sti i nx L st h = some (pc', L', st', h1)) (w : Wd D s A H0 b Lx xs h as ws tys H locs) (lo : LO ls nL b as L) (okl : okLc h.length L) (oks : okS h.length st) (kk : Kn p l e R s m args below meth c Qm D A H0 b Lx nL xs as h.length (slt h) cells slots h1 L' st' pc') : W p l e R s m args below meth c H locs cells slots Qm (F0 m pc ls (st.map (zcv b as))) := by
  unfold s_sti at e0
  split at e0
  · rename_i x r
    cases hb : (Nat.blt i L.length && okSt L i) with
    | false => rw [hb] at e0; cases e0
    | true =>
      rw [hb] at e0
      simp only [cond_true, Option.some.injEq, Prod.mk.injEq] at e0; obtain ⟨rfl, rfl, rfl, rfl⟩ := e0
      simp only [Bool.and_eq_true] at hb
      have hi : i < nL := by rw [← lo.2]; exact Nat.blt_eq.mp hb.1
      exact hrow x _ lo.1 hi (fun ls' h' => Kn.same kk w (LO_st1 (v := .int x) okl hb.2 lo.2 h') (okl_st1 okl trivial) (List.forall_mem_cons.mp oks).2)
  · cases e0
theorem sm_stl {i : Nat} (hrow : ∀ (x : Int64) (rest : List Value), lv_has ls nL (Lz b as L) → i + 1 < nL → (∀ ls' : Array Slot, lv_has ls' nL ((i, .long x) :: (Lz b as L).filter (fun q => !(q.1 == i) && (!(q.1 == i + 1) && !(q.1 + 1 == i && q.2.category == 2)))) → W p l e R s m args below meth c H locs cells slots Qm (F0 m nx ls' rest)) → W p l e R s m args below meth c H locs cells slots Qm (F0 m pc ls (.long x :: rest))) (e0 : s_stl i nx L st h = some (pc', L', st', h1)) (w : Wd D s A H0 b Lx xs h as ws tys H locs) (lo : LO ls nL b as L) (okl : okLc h.length L) (oks : okS h.length st) (kk : Kn p l e R s m args below meth c Qm D A H0 b Lx nL xs as h.length (slt h) cells slots h1 L' st' pc') : W p l e R s m args below meth c H locs cells slots Qm (F0 m pc ls (st.map (zcv b as))) := by
  unfold s_stl at e0
  split at e0
  · rename_i x r
    cases hb : (Nat.blt (i + 1) L.length && okSt L i) with
    | false => rw [hb] at e0; cases e0
    | true =>
      rw [hb] at e0
      simp only [cond_true, Option.some.injEq, Prod.mk.injEq] at e0; obtain ⟨rfl, rfl, rfl, rfl⟩ := e0
      simp only [Bool.and_eq_true] at hb
      have hi : i + 1 < nL := by rw [← lo.2]; exact Nat.blt_eq.mp hb.1
      exact hrow x _ lo.1 hi (fun ls' h' => Kn.same kk w (LO_st2 (v := .long x) okl hb.2 lo.2 h') (okl_st2 okl trivial) (List.forall_mem_cons.mp oks).2)
  · cases e0
theorem sm_sta {i : Nat} (hrow : ∀ (x : Nat) (rest : List Value), lv_has ls nL (Lz b as L) → i < nL → (∀ ls' : Array Slot, lv_has ls' nL ((i, .ref x) :: (Lz b as L).filter (fun q => !(q.1 == i) && !(q.1 + 1 == i && q.2.category == 2))) → W p l e R s m args below meth c H locs cells slots Qm (F0 m nx ls' rest)) → W p l e R s m args below meth c H locs cells slots Qm (F0 m pc ls (.ref x :: rest))) (hrow2 : ∀ (rest : List Value), lv_has ls nL (Lz b as L) → i < nL → (∀ ls' : Array Slot, lv_has ls' nL ((i, .null) :: (Lz b as L).filter (fun q => !(q.1 == i) && !(q.1 + 1 == i && q.2.category == 2))) → W p l e R s m args below meth c H locs cells slots Qm (F0 m nx ls' rest)) → W p l e R s m args below meth c H locs cells slots Qm (F0 m pc ls (.null :: rest))) (e0 : s_sta i nx L st h = some (pc', L', st', h1)) (w : Wd D s A H0 b Lx xs h as ws tys H locs) (lo : LO ls nL b as L) (okl : okLc h.length L) (oks : okS h.length st) (kk : Kn p l e R s m args below meth c Qm D A H0 b Lx nL xs as h.length (slt h) cells slots h1 L' st' pc') : W p l e R s m args below meth c H locs cells slots Qm (F0 m pc ls (st.map (zcv b as))) := by
  unfold s_sta at e0
  split at e0
  · rename_i x r
    cases hb : (Nat.blt i L.length && okSt L i) with
    | false => rw [hb] at e0; cases e0
    | true =>
      rw [hb] at e0
      simp only [cond_true, Option.some.injEq, Prod.mk.injEq] at e0; obtain ⟨rfl, rfl, rfl, rfl⟩ := e0
      simp only [Bool.and_eq_true] at hb
      have hi : i < nL := by rw [← lo.2]; exact Nat.blt_eq.mp hb.1
      have hx := (List.forall_mem_cons.mp oks)
      exact hrow (zad b as x) _ lo.1 hi (fun ls' h' => Kn.same kk w (LO_st1 (v := .ref x) okl hb.2 lo.2 h') (okl_st1 okl hx.1) hx.2)
  · rename_i r
    cases hb : (Nat.blt i L.length && okSt L i) with
    | false => rw [hb] at e0; cases e0
    | true =>
      rw [hb] at e0
      simp only [cond_true, Option.some.injEq, Prod.mk.injEq] at e0; obtain ⟨rfl, rfl, rfl, rfl⟩ := e0
      simp only [Bool.and_eq_true] at hb
      have hi : i < nL := by rw [← lo.2]; exact Nat.blt_eq.mp hb.1
      have hx := (List.forall_mem_cons.mp oks)
      exact hrow2 _ lo.1 hi (fun ls' h' => Kn.same kk w (LO_st1 (v := .null) okl hb.2 lo.2 h') (okl_st1 okl hx.1) hx.2)
  · cases e0
theorem sm_inc {i n : Nat} {neg : Bool} {z : Nat} {sw : List (Nat × Nat)} (hrow : ∀ (k : Nat) (x : Int32), (Lz b as L)[k]? = some (i, .int x) → lv_has ls nL (Lz b as L) → i < nL → (∀ ls' : Array Slot, lv_has ls' nL ((i, .int (x + ci n neg)) :: (Lz b as L).filter (fun q => !(q.1 == i) && !(q.1 + 1 == i && q.2.category == 2))) → W p l e R s m args below meth c H locs cells slots Qm (F0 m nx ls' (st.map (zcv b as)))) → W p l e R s m args below meth c H locs cells slots Qm (F0 m pc ls (st.map (zcv b as)))) (e0 : s_inc i nx neg ((n, z) :: sw) L st h = some (pc', L', st', h1)) (w : Wd D s A H0 b Lx xs h as ws tys H locs) (lo : LO ls nL b as L) (okl : okLc h.length L) (oks : okS h.length st) (kk : Kn p l e R s m args below meth c Qm D A H0 b Lx nL xs as h.length (slt h) cells slots h1 L' st' pc') : W p l e R s m args below meth c H locs cells slots Qm (F0 m pc ls (st.map (zcv b as))) := by
  unfold s_inc at e0
  split at e0
  · rename_i x n' z' sw' hx hq
    cases hq
    cases hb : okSt L i with
    | false => rw [hb] at e0; cases e0
    | true =>
    rw [hb] at e0
    simp only [cond_true, Option.some.injEq, Prod.mk.injEq] at e0; obtain ⟨rfl, rfl, rfl, rfl⟩ := e0
    have hm : (i, Value.int x) ∈ Lz b as L := mem_Lz.mpr ⟨i, .int x, hx, rfl⟩
    obtain ⟨k, hk⟩ := List.getElem?_of_mem hm
    have hi : i < nL := by rw [← lo.2]; exact nth_lt hx
    exact hrow k x hk lo.1 hi (fun ls' h' => Kn.same kk w (LO_st1 (v := .int (x + ci _ neg)) okl hb lo.2 h') (okl_st1 okl trivial) oks)
  · cases e0
theorem sm_ii {f : Int32 → Int32 → Int32} (hrow : ∀ (y : Int32) (x : Int32) (rest : List Value), W p l e R s m args below meth c H locs cells slots Qm (F0 m nx ls (.int (f x y) :: rest)) → W p l e R s m args below meth c H locs cells slots Qm (F0 m pc ls (.int y :: .int x :: rest))) (e0 : s_ii f nx L st h = some (pc', L', st', h1)) (w : Wd D s A H0 b Lx xs h as ws tys H locs) (lo : LO ls nL b as L) (okl : okLc h.length L) (oks : okS h.length st) (kk : Kn p l e R s m args below meth c Qm D A H0 b Lx nL xs as h.length (slt h) cells slots h1 L' st' pc') : W p l e R s m args below meth c H locs cells slots Qm (F0 m pc ls (st.map (zcv b as))) := by
  unfold s_ii at e0
  split at e0
  · rename_i y x r
    simp only [Option.some.injEq, Prod.mk.injEq] at e0; obtain ⟨rfl, rfl, rfl, rfl⟩ := e0
    exact hrow y x _ (Kn.same kk w lo okl (List.forall_mem_cons.mpr ⟨trivial, (List.forall_mem_cons.mp (List.forall_mem_cons.mp oks).2).2⟩))
  · cases e0
theorem sm_iid {f : Int32 → Int32 → Int32} (hrow : ∀ (y : Int32) (x : Int32) (rest : List Value), ¬ y = 0 → W p l e R s m args below meth c H locs cells slots Qm (F0 m nx ls (.int (f x y) :: rest)) → W p l e R s m args below meth c H locs cells slots Qm (F0 m pc ls (.int y :: .int x :: rest))) (e0 : s_iid f nx L st h = some (pc', L', st', h1)) (w : Wd D s A H0 b Lx xs h as ws tys H locs) (lo : LO ls nL b as L) (okl : okLc h.length L) (oks : okS h.length st) (kk : Kn p l e R s m args below meth c Qm D A H0 b Lx nL xs as h.length (slt h) cells slots h1 L' st' pc') : W p l e R s m args below meth c H locs cells slots Qm (F0 m pc ls (st.map (zcv b as))) := by
  unfold s_iid at e0
  split at e0
  · rename_i y x r
    by_cases hy : y = 0
    · rw [if_pos hy] at e0; cases e0
    · rw [if_neg hy] at e0
      simp only [Option.some.injEq, Prod.mk.injEq] at e0; obtain ⟨rfl, rfl, rfl, rfl⟩ := e0
      exact hrow y x _ hy (Kn.same kk w lo okl (List.forall_mem_cons.mpr ⟨trivial, (List.forall_mem_cons.mp (List.forall_mem_cons.mp oks).2).2⟩))
  · cases e0
theorem sm_ll {f : Int64 → Int64 → Value} (hok : ∀ (x : Int64) (y : Int64) (n : Nat), okV n (f x y) ∧ ∀ (b : Nat) (as : List Nat), zcv b as (f x y) = f x y) (hrow : ∀ (y : Int64) (x : Int64) (rest : List Value), W p l e R s m args below meth c H locs cells slots Qm (F0 m nx ls (f x y :: rest)) → W p l e R s m args below meth c H locs cells slots Qm (F0 m pc ls (.long y :: .long x :: rest))) (e0 : s_ll f nx L st h = some (pc', L', st', h1)) (w : Wd D s A H0 b Lx xs h as ws tys H locs) (lo : LO ls nL b as L) (okl : okLc h.length L) (oks : okS h.length st) (kk : Kn p l e R s m args below meth c Qm D A H0 b Lx nL xs as h.length (slt h) cells slots h1 L' st' pc') : W p l e R s m args below meth c H locs cells slots Qm (F0 m pc ls (st.map (zcv b as))) := by
  unfold s_ll at e0
  split at e0
  · rename_i y x r
    simp only [Option.some.injEq, Prod.mk.injEq] at e0; obtain ⟨rfl, rfl, rfl, rfl⟩ := e0
    have := Kn.same kk w lo okl (List.forall_mem_cons.mpr ⟨(hok x y _).1, (List.forall_mem_cons.mp (List.forall_mem_cons.mp oks).2).2⟩)
    rw [List.map_cons, (hok x y 0).2] at this
    exact hrow y x _ this
  · cases e0
theorem sm_lld {f : Int64 → Int64 → Value} (hok : ∀ (x : Int64) (y : Int64) (n : Nat), okV n (f x y) ∧ ∀ (b : Nat) (as : List Nat), zcv b as (f x y) = f x y) (hrow : ∀ (y : Int64) (x : Int64) (rest : List Value), ¬ y = 0 → W p l e R s m args below meth c H locs cells slots Qm (F0 m nx ls (f x y :: rest)) → W p l e R s m args below meth c H locs cells slots Qm (F0 m pc ls (.long y :: .long x :: rest))) (e0 : s_lld f nx L st h = some (pc', L', st', h1)) (w : Wd D s A H0 b Lx xs h as ws tys H locs) (lo : LO ls nL b as L) (okl : okLc h.length L) (oks : okS h.length st) (kk : Kn p l e R s m args below meth c Qm D A H0 b Lx nL xs as h.length (slt h) cells slots h1 L' st' pc') : W p l e R s m args below meth c H locs cells slots Qm (F0 m pc ls (st.map (zcv b as))) := by
  unfold s_lld at e0
  split at e0
  · rename_i y x r
    by_cases hy : y = 0
    · rw [if_pos hy] at e0; cases e0
    · rw [if_neg hy] at e0
      simp only [Option.some.injEq, Prod.mk.injEq] at e0; obtain ⟨rfl, rfl, rfl, rfl⟩ := e0
      have := Kn.same kk w lo okl (List.forall_mem_cons.mpr ⟨(hok x y _).1, (List.forall_mem_cons.mp (List.forall_mem_cons.mp oks).2).2⟩)
      rw [List.map_cons, (hok x y 0).2] at this
      exact hrow y x _ hy this
  · cases e0
theorem sm_li {f : Int64 → Int32 → Value} (hok : ∀ (x : Int64) (y : Int32) (n : Nat), okV n (f x y) ∧ ∀ (b : Nat) (as : List Nat), zcv b as (f x y) = f x y) (hrow : ∀ (y : Int32) (x : Int64) (rest : List Value), W p l e R s m args below meth c H locs cells slots Qm (F0 m nx ls (f x y :: rest)) → W p l e R s m args below meth c H locs cells slots Qm (F0 m pc ls (.int y :: .long x :: rest))) (e0 : s_li f nx L st h = some (pc', L', st', h1)) (w : Wd D s A H0 b Lx xs h as ws tys H locs) (lo : LO ls nL b as L) (okl : okLc h.length L) (oks : okS h.length st) (kk : Kn p l e R s m args below meth c Qm D A H0 b Lx nL xs as h.length (slt h) cells slots h1 L' st' pc') : W p l e R s m args below meth c H locs cells slots Qm (F0 m pc ls (st.map (zcv b as))) := by
  unfold s_li at e0
  split at e0
  · rename_i y x r
    simp only [Option.some.injEq, Prod.mk.injEq] at e0; obtain ⟨rfl, rfl, rfl, rfl⟩ := e0
    have := Kn.same kk w lo okl (List.forall_mem_cons.mpr ⟨(hok x y _).1, (List.forall_mem_cons.mp (List.forall_mem_cons.mp oks).2).2⟩)
    rw [List.map_cons, (hok x y 0).2] at this
    exact hrow y x _ this
  · cases e0
theorem sm_i {f : Int32 → Value} (hok : ∀ (x : Int32) (n : Nat), okV n (f x) ∧ ∀ (b : Nat) (as : List Nat), zcv b as (f x) = f x) (hrow : ∀ (x : Int32) (rest : List Value), W p l e R s m args below meth c H locs cells slots Qm (F0 m nx ls (f x :: rest)) → W p l e R s m args below meth c H locs cells slots Qm (F0 m pc ls (.int x :: rest))) (e0 : s_i f nx L st h = some (pc', L', st', h1)) (w : Wd D s A H0 b Lx xs h as ws tys H locs) (lo : LO ls nL b as L) (okl : okLc h.length L) (oks : okS h.length st) (kk : Kn p l e R s m args below meth c Qm D A H0 b Lx nL xs as h.length (slt h) cells slots h1 L' st' pc') : W p l e R s m args below meth c H locs cells slots Qm (F0 m pc ls (st.map (zcv b as))) := by
  unfold s_i at e0
  split at e0
  · rename_i x r
    simp only [Option.some.injEq, Prod.mk.injEq] at e0; obtain ⟨rfl, rfl, rfl, rfl⟩ := e0
    have := Kn.same kk w lo okl (List.forall_mem_cons.mpr ⟨(hok x _).1, (List.forall_mem_cons.mp oks).2⟩)
    rw [List.map_cons, (hok x 0).2] at this
    exact hrow x _ this
  · cases e0
theorem sm_l {f : Int64 → Value} (hok : ∀ (x : Int64) (n : Nat), okV n (f x) ∧ ∀ (b : Nat) (as : List Nat), zcv b as (f x) = f x) (hrow : ∀ (x : Int64) (rest : List Value), W p l e R s m args below meth c H locs cells slots Qm (F0 m nx ls (f x :: rest)) → W p l e R s m args below meth c H locs cells slots Qm (F0 m pc ls (.long x :: rest))) (e0 : s_l f nx L st h = some (pc', L', st', h1)) (w : Wd D s A H0 b Lx xs h as ws tys H locs) (lo : LO ls nL b as L) (okl : okLc h.length L) (oks : okS h.length st) (kk : Kn p l e R s m args below meth c Qm D A H0 b Lx nL xs as h.length (slt h) cells slots h1 L' st' pc') : W p l e R s m args below meth c H locs cells slots Qm (F0 m pc ls (st.map (zcv b as))) := by
  unfold s_l at e0
  split at e0
  · rename_i x r
    simp only [Option.some.injEq, Prod.mk.injEq] at e0; obtain ⟨rfl, rfl, rfl, rfl⟩ := e0
    have := Kn.same kk w lo okl (List.forall_mem_cons.mpr ⟨(hok x _).1, (List.forall_mem_cons.mp oks).2⟩)
    rw [List.map_cons, (hok x 0).2] at this
    exact hrow x _ this
  · cases e0
theorem sm_k {v : Value} (hok : ∀ n : Nat, okV n v ∧ ∀ (b : Nat) (as : List Nat), zcv b as v = v) (hrow : W p l e R s m args below meth c H locs cells slots Qm (F0 m nx ls (v :: st.map (zcv b as))) → W p l e R s m args below meth c H locs cells slots Qm (F0 m pc ls (st.map (zcv b as)))) (e0 : s_k v nx L st h = some (pc', L', st', h1)) (w : Wd D s A H0 b Lx xs h as ws tys H locs) (lo : LO ls nL b as L) (okl : okLc h.length L) (oks : okS h.length st) (kk : Kn p l e R s m args below meth c Qm D A H0 b Lx nL xs as h.length (slt h) cells slots h1 L' st' pc') : W p l e R s m args below meth c H locs cells slots Qm (F0 m pc ls (st.map (zcv b as))) := by
  unfold s_k at e0
  simp only [Option.some.injEq, Prod.mk.injEq] at e0; obtain ⟨rfl, rfl, rfl, rfl⟩ := e0
  have := Kn.same kk w lo okl (List.forall_mem_cons.mpr ⟨(hok _).1, oks⟩)
  rw [List.map_cons, (hok 0).2] at this
  exact hrow this
theorem cat1_of {n : Nat} {v : Value} (h : cat1 v = true) : v.category = 1 := by
  cases v <;> first | rfl | cases h
theorem sm_dup (hrow : ∀ (v : Value) (rest : List Value), v.category = 1 → W p l e R s m args below meth c H locs cells slots Qm (F0 m nx ls (v :: v :: rest)) → W p l e R s m args below meth c H locs cells slots Qm (F0 m pc ls (v :: rest))) (e0 : s_dup nx L st h = some (pc', L', st', h1)) (w : Wd D s A H0 b Lx xs h as ws tys H locs) (lo : LO ls nL b as L) (okl : okLc h.length L) (oks : okS h.length st) (kk : Kn p l e R s m args below meth c Qm D A H0 b Lx nL xs as h.length (slt h) cells slots h1 L' st' pc') : W p l e R s m args below meth c H locs cells slots Qm (F0 m pc ls (st.map (zcv b as))) := by
  unfold s_dup at e0
  split at e0
  · rename_i v r
    cases hb : cat1 v with
    | false => rw [hb] at e0; cases e0
    | true =>
      rw [hb] at e0
      simp only [cond_true, Option.some.injEq, Prod.mk.injEq] at e0; obtain ⟨rfl, rfl, rfl, rfl⟩ := e0
      have hx := (List.forall_mem_cons.mp oks)
      exact hrow _ _ ((zcv_cat b as v).trans (cat1_of (n := 0) hb)) (Kn.same kk w lo okl (List.forall_mem_cons.mpr ⟨hx.1, oks⟩))
  · cases e0
theorem sm_pop (hrow : ∀ (v : Value) (rest : List Value), v.category = 1 → W p l e R s m args below meth c H locs cells slots Qm (F0 m nx ls rest) → W p l e R s m args below meth c H locs cells slots Qm (F0 m pc ls (v :: rest))) (e0 : s_pop nx L st h = some (pc', L', st', h1)) (w : Wd D s A H0 b Lx xs h as ws tys H locs) (lo : LO ls nL b as L) (okl : okLc h.length L) (oks : okS h.length st) (kk : Kn p l e R s m args below meth c Qm D A H0 b Lx nL xs as h.length (slt h) cells slots h1 L' st' pc') : W p l e R s m args below meth c H locs cells slots Qm (F0 m pc ls (st.map (zcv b as))) := by
  unfold s_pop at e0
  split at e0
  · rename_i v r
    cases hb : cat1 v with
    | false => rw [hb] at e0; cases e0
    | true =>
      rw [hb] at e0
      simp only [cond_true, Option.some.injEq, Prod.mk.injEq] at e0; obtain ⟨rfl, rfl, rfl, rfl⟩ := e0
      exact hrow _ _ ((zcv_cat b as v).trans (cat1_of (n := 0) hb)) (Kn.same kk w lo okl (List.forall_mem_cons.mp oks).2)
  · cases e0
theorem sm_dup2 (hrow : ∀ (v z : Value) (rest : List Value), v.category = 1 → z.category = 1 → W p l e R s m args below meth c H locs cells slots Qm (F0 m nx ls (v :: z :: v :: z :: rest)) → W p l e R s m args below meth c H locs cells slots Qm (F0 m pc ls (v :: z :: rest))) (e0 : s_dup2 nx L st h = some (pc', L', st', h1)) (w : Wd D s A H0 b Lx xs h as ws tys H locs) (lo : LO ls nL b as L) (okl : okLc h.length L) (oks : okS h.length st) (kk : Kn p l e R s m args below meth c Qm D A H0 b Lx nL xs as h.length (slt h) cells slots h1 L' st' pc') : W p l e R s m args below meth c H locs cells slots Qm (F0 m pc ls (st.map (zcv b as))) := by
  unfold s_dup2 at e0
  split at e0
  · rename_i v z r
    cases hb : cat1 v with
    | false => rw [hb] at e0; cases e0
    | true =>
      cases hb2 : cat1 z with
      | false => rw [hb, hb2] at e0; cases e0
      | true =>
        rw [hb, hb2] at e0
        simp only [Bool.and_self, cond_true, Option.some.injEq, Prod.mk.injEq] at e0; obtain ⟨rfl, rfl, rfl, rfl⟩ := e0
        have hx := (List.forall_mem_cons.mp oks)
        have hy := (List.forall_mem_cons.mp hx.2)
        exact hrow _ _ _ ((zcv_cat b as v).trans (cat1_of (n := 0) hb)) ((zcv_cat b as z).trans (cat1_of (n := 0) hb2)) (Kn.same kk w lo okl (List.forall_mem_cons.mpr ⟨hx.1, List.forall_mem_cons.mpr ⟨hy.1, oks⟩⟩))
  · cases e0
theorem sm_icmp {op : Jvm.ClassFile.Cond} {tg : Nat} (hrow : ∀ (y x : Int32) (rest : List Value), W p l e R s m args below meth c H locs cells slots Qm (F0 m (b_icmp op nx tg x y) ls rest) → W p l e R s m args below meth c H locs cells slots Qm (F0 m pc ls (.int y :: .int x :: rest))) (e0 : s_icmp op nx tg L st h = some (pc', L', st', h1)) (w : Wd D s A H0 b Lx xs h as ws tys H locs) (lo : LO ls nL b as L) (okl : okLc h.length L) (oks : okS h.length st) (kk : Kn p l e R s m args below meth c Qm D A H0 b Lx nL xs as h.length (slt h) cells slots h1 L' st' pc') : W p l e R s m args below meth c H locs cells slots Qm (F0 m pc ls (st.map (zcv b as))) := by
  unfold s_icmp at e0
  split at e0
  · rename_i y x r
    simp only [Option.some.injEq, Prod.mk.injEq] at e0; obtain ⟨rfl, rfl, rfl, rfl⟩ := e0
    exact hrow y x _ (Kn.same kk w lo okl (List.forall_mem_cons.mp (List.forall_mem_cons.mp oks).2).2)
  · cases e0
theorem sm_if {op : Jvm.ClassFile.Cond} {tg : Nat} (hrow : ∀ (x : Int32) (rest : List Value), W p l e R s m args below meth c H locs cells slots Qm (F0 m (b_icmp op nx tg x (nI 0)) ls rest) → W p l e R s m args below meth c H locs cells slots Qm (F0 m pc ls (.int x :: rest))) (e0 : s_if op nx tg L st h = some (pc', L', st', h1)) (w : Wd D s A H0 b Lx xs h as ws tys H locs) (lo : LO ls nL b as L) (okl : okLc h.length L) (oks : okS h.length st) (kk : Kn p l e R s m args below meth c Qm D A H0 b Lx nL xs as h.length (slt h) cells slots h1 L' st' pc') : W p l e R s m args below meth c H locs cells slots Qm (F0 m pc ls (st.map (zcv b as))) := by
  unfold s_if at e0
  split at e0
  · rename_i x r
    simp only [Option.some.injEq, Prod.mk.injEq] at e0; obtain ⟨rfl, rfl, rfl, rfl⟩ := e0
    exact hrow x _ (Kn.same kk w lo okl (List.forall_mem_cons.mp oks).2)
  · cases e0
theorem sm_ifnull {tg : Nat} (hrow : ∀ (rest : List Value), W p l e R s m args below meth c H locs cells slots Qm (F0 m tg ls rest) → W p l e R s m args below meth c H locs cells slots Qm (F0 m pc ls (.null :: rest))) (hrow2 : ∀ (x : Nat) (rest : List Value), W p l e R s m args below meth c H locs cells slots Qm (F0 m nx ls rest) → W p l e R s m args below meth c H locs cells slots Qm (F0 m pc ls (.ref x :: rest))) (e0 : s_ifnull nx tg L st h = some (pc', L', st', h1)) (w : Wd D s A H0 b Lx xs h as ws tys H locs) (lo : LO ls nL b as L) (okl : okLc h.length L) (oks : okS h.length st) (kk : Kn p l e R s m args below meth c Qm D A H0 b Lx nL xs as h.length (slt h) cells slots h1 L' st' pc') : W p l e R s m args below meth c H locs cells slots Qm (F0 m pc ls (st.map (zcv b as))) := by
  unfold s_ifnull at e0
  split at e0
  · rename_i r
    simp only [Option.some.injEq, Prod.mk.injEq] at e0; obtain ⟨rfl, rfl, rfl, rfl⟩ := e0
    exact hrow _ (Kn.same kk w lo okl (List.forall_mem_cons.mp oks).2)
  · rename_i x r
    simp only [Option.some.injEq, Prod.mk.injEq] at e0; obtain ⟨rfl, rfl, rfl, rfl⟩ := e0
    exact hrow2 _ _ (Kn.same kk w lo okl (List.forall_mem_cons.mp oks).2)
  · cases e0
theorem sm_ifnn {tg : Nat} (hrow : ∀ (rest : List Value), W p l e R s m args below meth c H locs cells slots Qm (F0 m nx ls rest) → W p l e R s m args below meth c H locs cells slots Qm (F0 m pc ls (.null :: rest))) (hrow2 : ∀ (x : Nat) (rest : List Value), W p l e R s m args below meth c H locs cells slots Qm (F0 m tg ls rest) → W p l e R s m args below meth c H locs cells slots Qm (F0 m pc ls (.ref x :: rest))) (e0 : s_ifnn nx tg L st h = some (pc', L', st', h1)) (w : Wd D s A H0 b Lx xs h as ws tys H locs) (lo : LO ls nL b as L) (okl : okLc h.length L) (oks : okS h.length st) (kk : Kn p l e R s m args below meth c Qm D A H0 b Lx nL xs as h.length (slt h) cells slots h1 L' st' pc') : W p l e R s m args below meth c H locs cells slots Qm (F0 m pc ls (st.map (zcv b as))) := by
  unfold s_ifnn at e0
  split at e0
  · rename_i r
    simp only [Option.some.injEq, Prod.mk.injEq] at e0; obtain ⟨rfl, rfl, rfl, rfl⟩ := e0
    exact hrow _ (Kn.same kk w lo okl (List.forall_mem_cons.mp oks).2)
  · rename_i x r
    simp only [Option.some.injEq, Prod.mk.injEq] at e0; obtain ⟨rfl, rfl, rfl, rfl⟩ := e0
    exact hrow2 _ _ (Kn.same kk w lo okl (List.forall_mem_cons.mp oks).2)
  · cases e0
theorem sm_sw {d : Nat} {sw : List (Nat × Nat)} (hrow : ∀ (x : Int32) (rest : List Value), W p l e R s m args below meth c H locs cells slots Qm (F0 m (b_sw x d sw) ls rest) → W p l e R s m args below meth c H locs cells slots Qm (F0 m pc ls (.int x :: rest))) (e0 : s_sw d sw L st h = some (pc', L', st', h1)) (w : Wd D s A H0 b Lx xs h as ws tys H locs) (lo : LO ls nL b as L) (okl : okLc h.length L) (oks : okS h.length st) (kk : Kn p l e R s m args below meth c Qm D A H0 b Lx nL xs as h.length (slt h) cells slots h1 L' st' pc') : W p l e R s m args below meth c H locs cells slots Qm (F0 m pc ls (st.map (zcv b as))) := by
  unfold s_sw at e0
  split at e0
  · rename_i x r
    simp only [Option.some.injEq, Prod.mk.injEq] at e0; obtain ⟨rfl, rfl, rfl, rfl⟩ := e0
    exact hrow x _ (Kn.same kk w lo okl (List.forall_mem_cons.mp oks).2)
  · cases e0
end SIM1
