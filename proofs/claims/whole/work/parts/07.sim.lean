/-! the cells of a run and the cells of the machine -/
theorem nth_eq {α : Type} : ∀ (l : List α) (k : Nat), nth l k = l[k]?
  | [], k => by cases k <;> rfl
  | a :: l, 0 => rfl
  | a :: l, k + 1 => by rw [nth, nth_eq l k]; rfl
theorem setV_eq : ∀ (l : List Value) (k : Nat) (v : Value), setV l k v = l.set k v
  | [], k, v => by cases k <;> rfl
  | a :: l, 0, v => rfl
  | a :: l, k + 1, v => by rw [setV, setV_eq l k v]; rfl
theorem setH_eq : ∀ (l : Hp) (k : Nat) (v : Cl), setH l k v = l.set k v
  | [], k, v => by cases k <;> rfl
  | a :: l, 0, v => rfl
  | a :: l, k + 1, v => by rw [setH, setH_eq l k v]; rfl
theorem putL_eq : ∀ (l : Lc) (k : Nat) (v : Option Value), putL l k v = l.set k v
  | [], k, v => by cases k <;> rfl
  | a :: l, 0, v => rfl
  | a :: l, k + 1, v => by rw [putL, putL_eq l k v]; rfl
def zad (b : Nat) (as : List Nat) (i : Nat) : Nat := match i with
  | 0 => b
  | i + 1 => as.getD i 0
def zcv (b : Nat) (as : List Nat) (v : Value) : Value := match v with
  | .ref i => .ref (zad b as i)
  | _ => v
def okV (n : Nat) (v : Value) : Prop := match v with
  | .ref i => i < n
  | .float _ => False
  | .double _ => False
  | .retAddr _ => False
  | _ => True
def okS (n : Nat) (st : List Value) : Prop := ∀ v ∈ st, okV n v
def okLc (n : Nat) (L : Lc) : Prop := ∀ (i : Nat) (v : Value), nth L i = some (some v) → okV n v
theorem okV_le {n n' : Nat} {v : Value} (h : okV n v) (hn : n ≤ n') : okV n' v := by
  cases v <;> first | exact h | exact Nat.lt_of_lt_of_le h hn
theorem okS_le {n n' : Nat} {st : List Value} (h : okS n st) (hn : n ≤ n') : okS n' st := fun v hv => okV_le (h v hv) hn
theorem okLc_le {n n' : Nat} {L : Lc} (h : okLc n L) (hn : n ≤ n') : okLc n' L := fun i v hv => okV_le (h i v hv) hn
theorem zad_app (b : Nat) (as ex : List Nat) {i : Nat} (hi : i < as.length + 1) : zad b (as ++ ex) i = zad b as i := by
  cases i with
  | zero => rfl
  | succ i =>
    have : i < as.length := by omega
    simp only [zad, List.getD_eq_getElem?_getD, List.getElem?_append_left this]
theorem zcv_app (b : Nat) (as ex : List Nat) {v : Value} (h : okV (as.length + 1) v) : zcv b (as ++ ex) v = zcv b as v := by
  cases v <;> first | rfl | (show Value.ref _ = Value.ref _; rw [zad_app b as ex h])
theorem zcv_map_app (b : Nat) (as ex : List Nat) {st : List Value} (h : okS (as.length + 1) st) : st.map (zcv b (as ++ ex)) = st.map (zcv b as) := List.map_congr_left (fun v hv => zcv_app b as ex (h v hv))
theorem zcv_cat (b : Nat) (as : List Nat) (v : Value) : (zcv b as v).category = v.category := by cases v <;> rfl
def Lz (b : Nat) (as : List Nat) (L : Lc) : List (Nat × Value) := (List.range L.length).filterMap (fun i => match nth L i with
  | some (some v) => some (i, zcv b as v)
  | _ => none)
theorem nth_lt {α : Type} {l : List α} {k : Nat} {a : α} (h : nth l k = some a) : k < l.length := by
  rw [nth_eq] at h
  exact (List.getElem?_eq_some_iff.mp h).1
theorem mem_Lz {b : Nat} {as : List Nat} {L : Lc} {q : Nat × Value} : q ∈ Lz b as L ↔ ∃ (i : Nat) (v : Value), nth L i = some (some v) ∧ q = (i, zcv b as v) := by
  unfold Lz
  rw [List.mem_filterMap]
  constructor
  · rintro ⟨i, -, h⟩
    split at h
    · rename_i v hv
      exact ⟨i, v, hv, (Option.some.inj h).symm⟩
    · cases h
  · rintro ⟨i, v, h, rfl⟩
    exact ⟨i, List.mem_range.mpr (nth_lt h), by rw [h]⟩
def LO (ls : Array Slot) (nL b : Nat) (as : List Nat) (L : Lc) : Prop := lv_has ls nL (Lz b as L) ∧ L.length = nL
theorem LO.at {ls : Array Slot} {nL b : Nat} {as : List Nat} {L : Lc} (h : LO ls nL b as L) {i : Nat} {v : Value} (hi : nth L i = some (some v)) : ls[i]? = some (.val (zcv b as v)) := h.1.2.2 (i, zcv b as v) (mem_Lz.mpr ⟨i, v, hi, rfl⟩)
theorem lv_mono {ls : Array Slot} {nL : Nat} {l l' : List (Nat × Value)} (h : lv_has ls nL l) (hm : ∀ q ∈ l', q ∈ l) : lv_has ls nL l' := ⟨h.1, h.2.1, fun q hq => h.2.2 q (hm q hq)⟩
theorem LO.app {ls : Array Slot} {nL b : Nat} {as : List Nat} {L : Lc} (h : LO ls nL b as L) (ex : List Nat) (ok : okLc (as.length + 1) L) : LO ls nL b (as ++ ex) L := by
  refine ⟨lv_mono h.1 ?_, h.2⟩
  intro q hq
  obtain ⟨i, v, hi, rfl⟩ := mem_Lz.mp hq
  exact mem_Lz.mpr ⟨i, v, hi, by rw [zcv_app b as ex (ok i v hi)]⟩
theorem okSt_of {L : Lc} {i j : Nat} {x : Int64} (h : okSt L i = true) (hj : nth L j = some (some (.long x))) : j + 1 ≠ i := by
  intro z
  subst z
  unfold okSt at h
  simp only [hj] at h
  cases h
theorem okV_cat {n : Nat} {v : Value} (h : okV n v) (hc : v.category = 2) : ∃ x, v = .long x := by
  cases v <;> first | exact ⟨_, rfl⟩ | exact h.elim | (simp [Value.category] at hc)
theorem LO_st1 {ls : Array Slot} {nL b : Nat} {as : List Nat} {L : Lc} {i : Nat} {v : Value} {n : Nat} (h8 : okLc n L) (hok : okSt L i = true) (hl : L.length = nL) (h : lv_has ls nL ((i, zcv b as v) :: (Lz b as L).filter (fun q => !(q.1 == i) && !(q.1 + 1 == i && q.2.category == 2)))) : LO ls nL b as (st1 L i v) := by
  refine ⟨lv_mono h ?_, by unfold st1; rw [putL_eq, List.length_set, hl]⟩
  intro q hq
  obtain ⟨j, w, hj, rfl⟩ := mem_Lz.mp hq
  unfold st1 at hj
  rw [putL_eq, nth_eq, List.getElem?_set] at hj
  split at hj
  · rename_i e
    split at hj
    · simp only [Option.some.injEq] at hj
      subst hj; subst e
      exact List.mem_cons_self
    · cases hj
  · rename_i e
    rw [← nth_eq] at hj
    have g1 := hj
    refine List.mem_cons_of_mem _ (List.mem_filter.mpr ⟨mem_Lz.mpr ⟨j, w, g1, rfl⟩, ?_⟩)
    simp only [zcv_cat, Bool.and_eq_true, Bool.not_eq_true', beq_eq_false_iff_ne, ne_eq, Bool.and_eq_false_iff]
    refine ⟨fun z => e z.symm, ?_⟩
    by_cases hc : w.category = 2
    · exact Or.inl (fun z => by obtain ⟨x, hx⟩ := okV_cat (h8 j w g1) hc; subst hx; exact okSt_of hok g1 z)
    · exact Or.inr hc
theorem LO_st2 {ls : Array Slot} {nL b : Nat} {as : List Nat} {L : Lc} {i : Nat} {v : Value} {n : Nat} (h8 : okLc n L) (hok : okSt L i = true) (hl : L.length = nL) (h : lv_has ls nL ((i, zcv b as v) :: (Lz b as L).filter (fun q => !(q.1 == i) && (!(q.1 == i + 1) && !(q.1 + 1 == i && q.2.category == 2))))) : LO ls nL b as (st2 L i v) := by
  refine ⟨lv_mono h ?_, by unfold st2; rw [putL_eq, putL_eq, List.length_set, List.length_set, hl]⟩
  intro q hq
  obtain ⟨j, w, hj, rfl⟩ := mem_Lz.mp hq
  unfold st2 at hj
  rw [putL_eq, nth_eq, List.getElem?_set] at hj
  split at hj
  · split at hj <;> simp at hj
  · rename_i e2
    rw [putL_eq, List.getElem?_set] at hj
    split at hj
    · rename_i e
      split at hj
      · simp only [Option.some.injEq] at hj
        subst hj; subst e
        exact List.mem_cons_self
      · cases hj
    · rename_i e
      rw [← nth_eq] at hj
      have g1 := hj
      refine List.mem_cons_of_mem _ (List.mem_filter.mpr ⟨mem_Lz.mpr ⟨j, w, g1, rfl⟩, ?_⟩)
      simp only [zcv_cat, Bool.and_eq_true, Bool.not_eq_true', beq_eq_false_iff_ne, ne_eq, Bool.and_eq_false_iff]
      refine ⟨fun z => e z.symm, fun z => e2 z.symm, ?_⟩
      by_cases hc : w.category = 2
      · exact Or.inl (fun z => by obtain ⟨x, hx⟩ := okV_cat (h8 j w g1) hc; subst hx; exact okSt_of hok g1 z)
      · exact Or.inr hc
theorem st1_nth {L : Lc} {i j : Nat} {v w : Value} (h : nth (st1 L i v) j = some (some w)) : w = v ∨ nth L j = some (some w) := by
  unfold st1 at h
  rw [putL_eq, nth_eq, List.getElem?_set] at h
  split at h
  · split at h
    · simp only [Option.some.injEq] at h; exact Or.inl h.symm
    · cases h
  · rw [← nth_eq] at h; exact Or.inr h
theorem st2_nth {L : Lc} {i j : Nat} {v w : Value} (h : nth (st2 L i v) j = some (some w)) : w = v ∨ nth L j = some (some w) := by
  unfold st2 at h
  rw [putL_eq, nth_eq, List.getElem?_set] at h
  split at h
  · split at h <;> simp at h
  · rw [putL_eq, List.getElem?_set] at h
    split at h
    · split at h
      · simp only [Option.some.injEq] at h; exact Or.inl h.symm
      · cases h
    · rw [← nth_eq] at h; exact Or.inr h
