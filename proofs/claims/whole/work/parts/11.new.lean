/-! steps that make cells, and the machine's own methods -/
section SIM4
variable {p : Program} {l : Launch} {e : Env} {R : Room} {s : State} {m : MethodId} {args : Array Value} {below : List Frame} {meth : Method} {c : Code} {Qm : State → Prop} {D : va_G} {A : Nat → Prop} {H0 : Heap} {b Lx nL : Nat} {xs : Nat → Int32} {own : String} {cc : ByteArray}
variable {as : List Nat} {ws : va_W} {tys : List (ClassId × FieldType)} {H : Heap} {locs : List Loc} {cells slots : Nat} {ls : Array Slot} {L L' : Lc} {st st' : List Value} {h h1 : Hp} {pc pc' nx : Nat}
theorem arr_all : (decide (Cond.arrayClass (newarray.typeOf .int) ∈ zt) && decide (Cond.arrayClass (newarray.typeOf .long) ∈ zt) && decide (Cond.arrayOver (.object "MinorTables$Tape") ∈ zt)) = true := by decide +kernel
theorem arr_i : Cond.arrayClass (newarray.typeOf .int) ∈ zt := by have := arr_all; simp only [Bool.and_eq_true, decide_eq_true_eq] at this; exact this.1.1
theorem arr_j : Cond.arrayClass (newarray.typeOf .long) ∈ zt := by have := arr_all; simp only [Bool.and_eq_true, decide_eq_true_eq] at this; exact this.1.2
theorem arr_q : Cond.arrayOver (.object "MinorTables$Tape") ∈ zt := by have := arr_all; simp only [Bool.and_eq_true, decide_eq_true_eq] at this; exact this.2
theorem va_AOs {args : Array Value} {s : State} {C : String} (h : (Cond.arrayOver (.object C)).before args s = true) : va_AO C s := h
theorem rep_len (v : Value) : ∀ n, (rep n v).length = n
  | 0 => rfl
  | n + 1 => by rw [rep, List.length_cons, rep_len v n]
theorem rep_mem {v u : Value} : ∀ {n : Nat}, u ∈ rep n v → u = v
  | 0, h => by cases h
  | n + 1, h => by
    rw [rep] at h
    rcases List.mem_cons.mp h with h | h
    · exact h
    · exact rep_mem h
theorem rep_nth {v u : Value} {n j : Nat} (h : nth (rep n v) j = some u) : u = v := rep_mem (List.mem_of_getElem? (by rw [← nth_eq]; exact h))
theorem slt_app (h : Hp) (t : Nat) (vs : List Value) : slt (h ++ [(t, vs)]) = slt h + vs.length := by
  simp [slt]
theorem cr_app {t : Nat} {vs : List Value} {e : va_E} (h : cr b as tys t vs e) (ex : List Nat) (tx : List (ClassId × FieldType)) (ok : okS (as.length + 1) vs) : cr b (as ++ ex) (tys ++ tx) t vs e := by
  have hz : ∀ {q : ClassId × FieldType} {k : Nat}, tys[k]? = some q → (tys ++ tx)[k]? = some q := fun {q k} hk => by
    rw [List.getElem?_append_left (List.getElem?_eq_some_iff.mp hk).1]; exact hk
  rcases h with ⟨h1, h2⟩ | ⟨h1, cA, f, t0, h2, h3, h4⟩ | ⟨h1, cA, f, t0, h2, h3, h4⟩ | ⟨h1, cA, f, t0, h2, h3, h4⟩
  · exact Or.inl ⟨h1, by rw [h2, zcv_map_app b as ex ok]⟩
  · exact Or.inr (Or.inl ⟨h1, cA, f, t0, h2, hz h3, h4⟩)
  · exact Or.inr (Or.inr (Or.inl ⟨h1, cA, f, t0, h2, hz h3, h4⟩))
  · refine Or.inr (Or.inr (Or.inr ⟨h1, cA, f, t0, h2, hz h3, fun j v hv => ?_⟩))
    rw [zcv_app b as ex (ok v (List.mem_of_getElem? (by rw [← nth_eq]; exact hv)))]
    exact h4 j v hv
theorem Wd.push {t q : Nat} {vs : List Value} {e' : va_E} {tx : List (ClassId × FieldType)} {H1 : Heap} {locs1 : List Loc} (w : Wd D s A H0 b Lx xs h as ws tys H locs) (hK : va_K D vcl (tys ++ tx) s) (hP : va_P D vcl (ws ++ [(q, e')]) H1) (hD : va_D A (ws ++ [(q, e')])) (hS : va_S A H0 H1 locs1) (hcr : cr b (as ++ [q]) (tys ++ tx) t vs e') (hok : okS (h.length + 1) vs) : Wd D s A H0 b Lx xs (h ++ [(t, vs)]) (as ++ [q]) (ws ++ [(q, e')]) (tys ++ tx) H1 locs1 := by
  obtain ⟨g1, g2, g3, g4, g5, g6, g7, g8, g9⟩ := w
  have hwl : ws.length = as.length := by rw [← g5, List.length_map]
  refine ⟨hK, hP, hD, hS, by rw [List.map_append, g5]; rfl, by simp [g6], ?_, ?_, ?_⟩
  · rw [nth_eq, List.getElem?_append_left (by omega), ← nth_eq]
    exact g7
  · intro i u us hj
    by_cases hi : i + 1 < h.length
    · rw [nth_eq, List.getElem?_append_left hi, ← nth_eq] at hj
      obtain ⟨q2, e2, h1, h2⟩ := g8 i u us hj
      refine ⟨q2, e2, by rw [List.getElem?_append_left (List.getElem?_eq_some_iff.mp h1).1]; exact h1, cr_app h2 _ _ ?_⟩
      rw [← g6]
      exact g9 _ _ _ hj
    · have hl := nth_lt hj
      simp only [List.length_append, List.length_cons, List.length_nil] at hl
      have he : i + 1 = h.length := by omega
      rw [nth_eq, he, List.getElem?_append_right (Nat.le_refl _), Nat.sub_self] at hj
      simp only [List.getElem?_cons_zero, Option.some.injEq, Prod.mk.injEq] at hj
      obtain ⟨rfl, rfl⟩ := hj
      refine ⟨q, e', ?_, hcr⟩
      rw [List.getElem?_append_right (by omega), show i - ws.length = 0 by omega]
      rfl
  · intro i u us hj
    rw [List.length_append]
    by_cases hi : i < h.length
    · rw [nth_eq, List.getElem?_append_left hi, ← nth_eq] at hj
      exact okS_le (g9 _ _ _ hj) (by omega)
    · have hl := nth_lt hj
      simp only [List.length_append, List.length_cons, List.length_nil] at hl
      have he : i = h.length := by omega
      rw [nth_eq, he, List.getElem?_append_right (Nat.le_refl _), Nat.sub_self] at hj
      simp only [List.getElem?_cons_zero, Option.some.injEq, Prod.mk.injEq] at hj
      obtain ⟨rfl, rfl⟩ := hj
      exact hok
theorem Kn.new {t q N : Nat} {vs r : List Value} {e' : va_E} {tx : List (ClassId × FieldType)} {H1 : Heap} {locs1 : List Loc} (kk : Kn p l e R s m args below meth c Qm D A H0 b Lx nL xs as h.length (slt h) cells slots (h ++ [(t, vs)]) L (.ref h.length :: r) nx) (hN : vs.length = N) (w : Wd D s A H0 b Lx xs h as ws tys H locs) (lo : LO ls nL b as L) (okl : okLc h.length L) (oks : okS h.length r) (hK : va_K D vcl (tys ++ tx) s) (hP : va_P D vcl (ws ++ [(q, e')]) H1) (hD : va_D A (ws ++ [(q, e')])) (hS : va_S A H0 H1 locs1) (hcr : cr b (as ++ [q]) (tys ++ tx) t vs e') (hok : okS (h.length + 1) vs) : W p l e R s m args below meth c H1 locs1 (cells + 1) (slots + N) Qm (F0 m nx ls (.ref q :: r.map (zcv b as))) := by
  have g6 := w.2.2.2.2.2.1
  have := kk [q] _ _ H1 locs1 ls (w.push hK hP hD hS hcr hok) (lo.app [q] (by rw [← g6]; exact okl)) (okLc_le okl (by simp)) (List.forall_mem_cons.mpr ⟨(by simp [okV]), okS_le oks (by simp)⟩)
  rw [slt_app, List.length_append, hN, List.map_cons, zcv_map_app b as [q] (by rw [← g6]; exact oks)] at this
  have hz : zcv b (as ++ [q]) (.ref h.length) = .ref q := by
    show Value.ref (zad b (as ++ [q]) h.length) = _
    rw [g6]
    simp [zad]
  rw [hz] at this
  simpa using this
theorem sm_newa {tag : Nat} {v : Value} {ty : FieldType} {at9 : ArrayType} (cx : Cx p R m c s args cc nL own b Lx xs A H0) (hdg : decode cc pc = .ok (.newarray at9, 2)) (hnx : pc + 2 = nx) (htag : (at9 = .int ∧ tag = 100 ∧ v = .int 0) ∨ (at9 = .long ∧ tag = 101 ∧ v = .long 0)) (e0 : s_newa tag v nx L st h = some (pc', L', st', h1)) (hrm : cells + (h1.length - h.length) ≤ R.cells ∧ slots + (slt h1 - slt h) ≤ R.slots) (w : Wd D s A H0 b Lx xs h as ws tys H locs) (lo : LO ls nL b as L) (okl : okLc h.length L) (oks : okS h.length st) (kk : Kn p l e R s m args below meth c Qm D A H0 b Lx nL xs as h.length (slt h) cells slots h1 L' st' pc') : W p l e R s m args below meth c H locs cells slots Qm (F0 m pc ls (st.map (zcv b as))) := by
  obtain ⟨hx, hb, hml, ho, hts, hX, hbl, hbA, hA, -⟩ := cx
  unfold s_newa at e0
  split at e0
  · rename_i n r
    split at e0
    · cases e0
    · rename_i hn
      cases hb2 : Nat.ble n.toNatClampNeg 65536 with
      | false => rw [hb2] at e0; cases e0
      | true =>
        rw [hb2] at e0
        have hle := Nat.le_of_ble_eq_true hb2
        simp only [cond_true, Option.some.injEq, Prod.mk.injEq] at e0; obtain ⟨rfl, rfl, rfl, rfl⟩ := e0
        rw [slt_app, List.length_append, rep_len] at hrm
        have h1 : cells + 1 ≤ R.cells := by have := hrm.1; simp at this; omega
        have h2 : slots + n.toNatClampNeg ≤ R.slots := by have := hrm.2; simp at this; omega
        rw [List.map_cons]
        show W p l e R s m args below meth c H locs cells slots Qm (F0 m pc ls (.int n :: r.map (zcv b as)))
        have ho2 := (List.forall_mem_cons.mp oks).2
        rcases htag with ⟨rfl, rfl, rfl⟩ | ⟨rfl, rfl, rfl⟩
        · refine va_newa (D := D) (cl := vcl) (tys := tys) (ws := ws) (atype := .int) (ty := .int) (a0 := (n.toNatClampNeg, .inl (fun _ => 0))) hx hb (hts _ arr_i) rfl w.1 w.2.1 w.2.2.1 w.2.2.2.1 hA (fun _ => rfl) hn rfl (by show _ * 4 ≤ _; omega) h1 h2 hdg (fun q cA H1 hK hP hD hS => ?_)
          rw [hnx]
          refine Kn.new kk (rep_len _ _) w lo okl ho2 hK hP hD hS (Or.inr (Or.inl ⟨rfl, cA, fun _ => 0, tys.length, by rw [rep_len], by simp, fun j u hu => rep_nth hu⟩)) (fun u hu => by rw [rep_mem hu]; trivial)
        · refine va_newa (D := D) (cl := vcl) (tys := tys) (ws := ws) (atype := .long) (ty := .long) (a0 := (n.toNatClampNeg, .inr (.inl (fun _ => 0)))) hx hb (hts _ arr_j) rfl w.1 w.2.1 w.2.2.1 w.2.2.2.1 hA (fun _ => rfl) hn rfl (by show _ * 8 ≤ _; omega) h1 h2 hdg (fun q cA H1 hK hP hD hS => ?_)
          rw [hnx]
          refine Kn.new kk (rep_len _ _) w lo okl ho2 hK hP hD hS (Or.inr (Or.inr (Or.inl ⟨rfl, cA, fun _ => 0, tys.length, by rw [rep_len], by simp, fun j u hu => rep_nth hu⟩))) (fun u hu => by rw [rep_mem hu]; trivial)
  · cases e0
theorem sm_newq {oc idx : Nat} (cx : Cx p R m c s args cc nL own b Lx xs A H0) (hown : own = cn oc) (hcl : Cond.classLink (cn oc) idx "MinorTables$Tape" ∈ zt) (hdg : decode cc pc = .ok (.anewarray idx, 3)) (hnx : pc + 3 = nx) (e0 : s_newa 102 .null nx L st h = some (pc', L', st', h1)) (hrm : cells + (h1.length - h.length) ≤ R.cells ∧ slots + (slt h1 - slt h) ≤ R.slots) (w : Wd D s A H0 b Lx xs h as ws tys H locs) (lo : LO ls nL b as L) (okl : okLc h.length L) (oks : okS h.length st) (kk : Kn p l e R s m args below meth c Qm D A H0 b Lx nL xs as h.length (slt h) cells slots h1 L' st' pc') : W p l e R s m args below meth c H locs cells slots Qm (F0 m pc ls (st.map (zcv b as))) := by
  obtain ⟨hx, hb, hml, ho, hts, hX, hbl, hbA, hA, -⟩ := cx
  unfold s_newa at e0
  split at e0
  · rename_i n r
    split at e0
    · cases e0
    · rename_i hn
      cases hb2 : Nat.ble n.toNatClampNeg 65536 with
      | false => rw [hb2] at e0; cases e0
      | true =>
        rw [hb2] at e0
        have hle := Nat.le_of_ble_eq_true hb2
        simp only [cond_true, Option.some.injEq, Prod.mk.injEq] at e0; obtain ⟨rfl, rfl, rfl, rfl⟩ := e0
        rw [slt_app, List.length_append, rep_len] at hrm
        have h1 : cells + 1 ≤ R.cells := by have := hrm.1; simp at this; omega
        have h2 : slots + n.toNatClampNeg ≤ R.slots := by have := hrm.2; simp at this; omega
        rw [List.map_cons]
        show W p l e R s m args below meth c H locs cells slots Qm (F0 m pc ls (.int n :: r.map (zcv b as)))
        have ho2 := (List.forall_mem_cons.mp oks).2
        rw [← hown] at hcl
        refine va_newq (D := D) (cl := vcl) (tys := tys) (ws := ws) (C := "MinorTables$Tape") hx hb ho (hts _ hcl) (by exact va_AOs (hts _ arr_q)) w.1 w.2.1 w.2.2.1 w.2.2.2.1 hA hn rfl (by omega) h1 h2 hdg (fun q cA H1 hK hP hD hS => ?_)
        rw [hnx]
        refine Kn.new kk (rep_len _ _) w lo okl ho2 hK hP hD hS (Or.inr (Or.inr (Or.inr ⟨rfl, cA, fun _ => none, tys.length, by rw [rep_len], by simp, fun j u hu => by rw [rep_nth hu]; rfl⟩))) (fun u hu => by rw [rep_mem hu]; trivial)
  · cases e0
theorem sm_new {oc idx t : Nat} (cx : Cx p R m c s args cc nL own b Lx xs A H0) (hown : own = cn oc) (ht : t < 8) (hcl : Cond.classLink (cn oc) idx (cn t) ∈ zt) (hdg : decode cc pc = .ok (.new idx, 3)) (hnx : pc + 3 = nx) (e0 : s_new t (nfs t) nx fty L st h = some (pc', L', st', h1)) (hrm : cells + (h1.length - h.length) ≤ R.cells ∧ slots + (slt h1 - slt h) ≤ R.slots) (w : Wd D s A H0 b Lx xs h as ws tys H locs) (lo : LO ls nL b as L) (okl : okLc h.length L) (oks : okS h.length st) (kk : Kn p l e R s m args below meth c Qm D A H0 b Lx nL xs as h.length (slt h) cells slots h1 L' st' pc') : W p l e R s m args below meth c H locs cells slots Qm (F0 m pc ls (st.map (zcv b as))) := by
  obtain ⟨hx, hb, hml, ho, hts, hX, hbl, hbA, hA, -⟩ := cx
  unfold s_new at e0
  simp only [Option.some.injEq, Prod.mk.injEq] at e0; obtain ⟨rfl, rfl, rfl, rfl⟩ := e0
  rw [slt_app, List.length_append, List.length_map, List.length_range] at hrm
  have h1 : cells + 1 ≤ R.cells := by have := hrm.1; simp at this; omega
  have h2 : slots + nfs t ≤ R.slots := by have := hrm.2; simp at this; omega
  obtain ⟨C, T, N, v1, v2, v3, v4, v5, v6⟩ := vcl_ok t ht
  have v7 := vws v1
  rw [← hown, v4] at hcl
  refine va_new (D := D) (cl := vcl) (tys := tys) (ws := ws) (ci := t) (C := C) (T := T) (N := N) (fs := (List.range N).map (fun k => dfl (fty t k))) hx hb hts v7.1 (fty t) v5 ho (hts _ hcl) (hts _ v7.2.1) (hts _ v7.2.2.1) w.1 w.2.1 w.2.2.1 w.2.2.2.1 hA v1 (fun j hj => ?_) h1 (by rw [v2]; exact h2) hdg (fun q H1 hP hD hS => ?_)
  · rw [v7.2.2.2 j hj]
    simp [vp_V, List.getD_eq_getElem?_getD, List.getElem?_range hj]
  · rw [hnx]
    have hd : ∀ k, ∀ (bb : Nat) (aa : List Nat), zcv bb aa (dfl (fty t k)) = dfl (fty t k) := fun k bb aa => by cases fty t k <;> rfl
    have hd2 : ∀ k n, okV n (dfl (fty t k)) := fun k n => by cases fty t k <;> trivial
    rw [v2] at hP hD ⊢
    have hlen : ((List.range (nfs t)).map (fun k => dfl (fty t k))).length = nfs t := by simp
    refine Kn.new (tx := []) kk hlen w lo okl oks (by rw [List.append_nil]; exact w.1) hP hD hS (Or.inl ⟨ht, ?_⟩) ?_
    · rw [List.map_map]
      congr 2
      apply List.map_congr_left
      intro k _
      exact (hd k b _).symm
    · intro u hu
      obtain ⟨k, -, rfl⟩ := List.mem_map.mp hu
      exact hd2 k _
end SIM4
