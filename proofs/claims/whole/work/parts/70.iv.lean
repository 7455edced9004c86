/-! what is always so stays so -/
theorem rg_bd {b : Nat} {v : Int32} (e1 : (-(nI b)).toInt = -(b : Int)) (e2 : (nI b).toInt = (b : Int)) (h : rgB (-(nI b)) (nI b) v = true) : bd v.toInt64 b := by
  unfold rgB at h
  simp only [Bool.and_eq_true, Bool.not_eq_true', decide_eq_false_iff_not] at h
  rw [Int32.lt_iff_toInt_lt, Int32.lt_iff_toInt_lt, e1, e2] at h
  unfold bd
  rw [Int32.toInt_toInt64]
  omega
theorem rAd_n {f : Nat → Nat → Int32} {m k w : Nat} {x y z : Int32} (h : k ≠ m) : rAdd f m x y z k w = f k w := by
  unfold rAdd
  rw [up_n h]
theorem rAd_s {f : Nat → Nat → Int32} {m : Nat} {x y z : Int32} : rAdd f m x y z m = fun w => if w = 0 then x else if w = 1 then y else z := by
  unfold rAdd
  exact up_s _ _ _
theorem bd_0 {b : Int} (h : 0 ≤ b) : bd 0 b := by
  unfold bd
  rw [show (0 : Int64).toInt = 0 from rfl]
  omega
theorem bd_uni (p : Nat) : bd (uni p) 99 := by
  unfold uni idm
  by_cases c : p / 4 = p % 4
  · rw [if_pos c]; unfold bd; decide
  · rw [if_neg c]; unfold bd; decide
theorem ic_size {c : Co} (i : IC c) {k : Nat} (h2 : 2 ≤ k) (h4 : k ≤ 4) : IC (newCo c k) :=
  IC.mk h2 h4 (fun a b _ _ => bd_uni _) (fun a _ => bd_0 (by decide)) (fun a _ _ => rfl) (Nat.zero_le _) (fun k hk => absurd hk (Nat.not_lt_zero k)) (Nat.zero_le _) (fun k hk => absurd hk (Nat.not_lt_zero k)) (fun k l _ hl => absurd hl (Nat.not_lt_zero l)) i.sm i.se i.em i.ev i.bm i.bk
theorem ic_tab {c : Co} (i : IC c) {E : Nat → Int64} (h : ∀ a b, a < c.n → b < c.n → bd (E (4 * a + b)) 99) : IC ((c.sN 2 0).sL 0 E) :=
  IC.mk i.n2 i.n4 h i.V i.V0 i.cm i.ck (Nat.zero_le _) (fun k hk => absurd hk (Nat.not_lt_zero k)) (fun k l _ hl => absurd hl (Nat.not_lt_zero l)) i.sm i.se i.em i.ev i.bm i.bk
theorem ic_vec {c : Co} (i : IC c) {a : Nat} {v : Int64} (ha : a < c.n) (h : bd v 9) : IC (c.sL 1 (up c.V a v)) := by
  refine IC.mk i.n2 i.n4 i.E (fun b hb => ?_) (fun b h1 h2 => ?_) i.cm i.ck i.nm i.nt i.nd i.sm i.se i.em i.ev i.bm i.bk
  · show bd (up c.V a v b) 9
    by_cases e : b = a
    · rw [e, up_s]; exact h
    · rw [up_n e]; exact i.V b hb
  · show up c.V a v b = 0
    have hb : c.n ≤ b := h1
    rw [up_n (by omega)]
    exact i.V0 b h1 h2
theorem ic_z1 {c : Co} (i : IC c) : IC (c.sN 1 0) := IC.mk i.n2 i.n4 i.E i.V i.V0 (Nat.zero_le _) (fun k hk => absurd hk (Nat.not_lt_zero k)) i.nm i.nt i.nd i.sm i.se i.em i.ev i.bm i.bk
theorem ic_z3 {c : Co} (i : IC c) : IC (c.sN 3 0) := IC.mk i.n2 i.n4 i.E i.V i.V0 i.cm i.ck i.nm i.nt i.nd (Nat.zero_le _) (fun k hk => absurd hk (Nat.not_lt_zero k)) i.em i.ev i.bm i.bk
theorem ic_z4 {c : Co} (i : IC c) : IC (c.sN 4 0) := IC.mk i.n2 i.n4 i.E i.V i.V0 i.cm i.ck i.nm i.nt i.nd i.sm i.se (Nat.zero_le _) (fun k hk => absurd hk (Nat.not_lt_zero k)) i.bm i.bk
theorem ic_z5 {c : Co} (i : IC c) : IC (c.sN 5 0) := IC.mk i.n2 i.n4 i.E i.V i.V0 i.cm i.ck i.nm i.nt i.nd i.sm i.se i.em i.ev (Nat.zero_le _) (fun k hk => absurd hk (Nat.not_lt_zero k))
theorem ic_a1 {c : Co} (i : IC c) {x y z : Int32} (hm : c.m 1 < 12) (h : ∃ a i v : Nat, x = nI a ∧ y = nI i ∧ z = nI v ∧ a < 3 ∧ (if a = 2 then i < c.n else i + 1 < c.n) ∧ 1 ≤ v ∧ v ≤ 9) : IC (c.add 1 x y z) := by
  refine IC.mk i.n2 i.n4 i.E i.V i.V0 (show c.m 1 + 1 ≤ 12 by omega) (fun k hk => ?_) i.nm i.nt i.nd i.sm i.se i.em i.ev i.bm i.bk
  have hk : k < c.m 1 + 1 := hk
  show ∃ a i v : Nat, rAdd (c.r 1) (c.m 1) x y z k 0 = nI a ∧ rAdd (c.r 1) (c.m 1) x y z k 1 = nI i ∧ rAdd (c.r 1) (c.m 1) x y z k 2 = nI v ∧ _
  by_cases e : k = c.m 1
  · rw [e, rAd_s]; exact h
  · rw [rAd_n e, rAd_n e, rAd_n e]; exact i.ck k (by omega)
theorem ic_a2 {c : Co} (i : IC c) {x y z : Int32} (hm : c.m 2 < 69) (h : ∃ R C : Nat, x = nI R ∧ y = nI C ∧ 1 ≤ R ∧ R < 2 ^ c.n ∧ 1 ≤ C ∧ C < 2 ^ c.n ∧ pop4 R = pop4 C) (hn : ∀ k, k < c.m 2 → ¬ (c.r 2 k 0 = x ∧ c.r 2 k 1 = y)) : IC (c.add 2 x y z) := by
  refine IC.mk i.n2 i.n4 i.E i.V i.V0 i.cm i.ck (show c.m 2 + 1 ≤ 69 by omega) (fun k hk => ?_) (fun k l hkl hl => ?_) i.sm i.se i.em i.ev i.bm i.bk
  · have hk : k < c.m 2 + 1 := hk
    show ∃ R C : Nat, rAdd (c.r 2) (c.m 2) x y z k 0 = nI R ∧ rAdd (c.r 2) (c.m 2) x y z k 1 = nI C ∧ _
    by_cases e : k = c.m 2
    · rw [e, rAd_s]; exact h
    · rw [rAd_n e, rAd_n e]; exact i.nt k (by omega)
  · have hl : l < c.m 2 + 1 := hl
    show ¬ (rAdd (c.r 2) (c.m 2) x y z k 0 = rAdd (c.r 2) (c.m 2) x y z l 0 ∧ rAdd (c.r 2) (c.m 2) x y z k 1 = rAdd (c.r 2) (c.m 2) x y z l 1)
    rw [rAd_n (show k ≠ c.m 2 by omega), rAd_n (show k ≠ c.m 2 by omega)]
    by_cases e : l = c.m 2
    · rw [e, rAd_s]; exact hn k (by omega)
    · rw [rAd_n e, rAd_n e]; exact i.nd k l hkl (by omega)
theorem ic_a3 {c : Co} (i : IC c) {x y z : Int32} (hm : c.m 3 < 4) (h : ∃ R C : Nat, x = nI R ∧ y = nI C ∧ R < 16 ∧ C < 16) : IC (c.add 3 x y z) := by
  refine IC.mk i.n2 i.n4 i.E i.V i.V0 i.cm i.ck i.nm i.nt i.nd (show c.m 3 + 1 ≤ 4 by omega) (fun k hk => ?_) i.em i.ev i.bm i.bk
  have hk : k < c.m 3 + 1 := hk
  show ∃ R C : Nat, rAdd (c.r 3) (c.m 3) x y z k 0 = nI R ∧ rAdd (c.r 3) (c.m 3) x y z k 1 = nI C ∧ _
  by_cases e : k = c.m 3
  · rw [e, rAd_s]; exact h
  · rw [rAd_n e, rAd_n e]; exact i.se k (by omega)
theorem ic_a4 {c : Co} (i : IC c) {x y z : Int32} (hm : c.m 4 < 8) (h : ∃ a : Nat, x = nI a ∧ a < 4 ∧ (a < 2 → ∃ i j, i < 4 ∧ j < 4 ∧ y = nI (10 * i + j)) ∧ (a = 2 → ∃ r, r < 3 ∧ y = nI r)) : IC (c.add 4 x y z) := by
  refine IC.mk i.n2 i.n4 i.E i.V i.V0 i.cm i.ck i.nm i.nt i.nd i.sm i.se (show c.m 4 + 1 ≤ 8 by omega) (fun k hk => ?_) i.bm i.bk
  have hk : k < c.m 4 + 1 := hk
  show ∃ a : Nat, rAdd (c.r 4) (c.m 4) x y z k 0 = nI a ∧ a < 4 ∧ (a < 2 → ∃ i j, i < 4 ∧ j < 4 ∧ rAdd (c.r 4) (c.m 4) x y z k 1 = nI (10 * i + j)) ∧ (a = 2 → ∃ r, r < 3 ∧ rAdd (c.r 4) (c.m 4) x y z k 1 = nI r)
  by_cases e : k = c.m 4
  · rw [e, rAd_s]; exact h
  · rw [rAd_n e, rAd_n e]; exact i.ev k (by omega)
theorem ic_a5 {c : Co} (i : IC c) {x y z : Int32} (hm : c.m 5 < 8) (h : ∃ i j, i < 4 ∧ j < 4 ∧ x = nI (10 * i + j)) : IC (c.add 5 x y z) := by
  refine IC.mk i.n2 i.n4 i.E i.V i.V0 i.cm i.ck i.nm i.nt i.nd i.sm i.se i.em i.ev (show c.m 5 + 1 ≤ 8 by omega) (fun k hk => ?_)
  have hk : k < c.m 5 + 1 := hk
  show ∃ i j, i < 4 ∧ j < 4 ∧ rAdd (c.r 5) (c.m 5) x y z k 0 = nI (10 * i + j)
  by_cases e : k = c.m 5
  · rw [e, rAd_s]; exact h
  · rw [rAd_n e]; exact i.bk k (by omega)
section IVS
variable {s : St} (i : IV s)
theorem iv_c (i : IV s) {c : Co} (h : IC c) : IV (s.sc c) := IV.mk h i.im i.tm i.ts
theorem iv_size (i : IV s) {x : Int32} : IV (oSize s x).2 := by
  unfold oSize
  rcases rgB_cases (a := 2) (b := 4) (by omega) (by omega) x with ⟨e, k, h2, h4, rfl⟩ | ⟨e, _⟩
  · rw [e, if_pos rfl, nI_clamp (by omega)]
    exact iv_c i (ic_size i.c h2 h4)
  · rw [e]; exact i
theorem iv_set (i : IV s) {x v : Int32} : IV (oSet s x v).2 := by
  unfold oSet
  by_cases c1 : spB s.c.n x = true
  · rw [if_pos c1]
    by_cases c2 : rgB (-(nI 99)) (nI 99) v = true
    · rw [if_pos c2]
      exact iv_c i (ic_tab i.c (up_b i.c.E (rg_bd (b := 99) (by decide) (by decide) c2)))
    · rw [if_neg c2]; exact i
  · rw [if_neg c1]; exact i
theorem iv_turn (i : IV s) : IV (oTurn s).2 := by
  refine iv_c i (ic_tab i.c (fun a b ha hb => ?_))
  have h4 := i.c.n4
  show bd (s.c.E (4 * ((4 * a + b) % 4) + (4 * a + b) / 4)) 99
  rw [show (4 * a + b) % 4 = b by omega, show (4 * a + b) / 4 = a by omega]
  exact i.c.E b a hb ha
theorem iv_flip (i : IV s) : IV (oFlip s).2 := by
  refine iv_c i (ic_tab i.c (fun a b ha hb => ?_))
  have h4 := i.c.n4
  show bd (s.c.E (4 * (s.c.n - 1 - (4 * a + b) / 4) + (s.c.n - 1 - (4 * a + b) % 4))) 99
  rw [show (4 * a + b) % 4 = b by omega, show (4 * a + b) / 4 = a by omega]
  exact i.c.E _ _ (by omega) (by omega)
theorem iv_clear (i : IV s) : IV (oClear s).2 := iv_c i (ic_z1 i.c)
theorem iv_vector (i : IV s) {x v : Int32} : IV (oVector s x v).2 := by
  unfold oVector
  by_cases c1 : ltB s.c.n x = true
  · rw [if_pos c1]
    by_cases c2 : rgB (-(nI 9)) (nI 9) v = true
    · rw [if_pos c2]
      obtain ⟨k, hk, rfl⟩ := ltB_spec c1
      have h4 := i.c.n4
      rw [nI_clamp (by omega)]
      exact iv_c i (ic_vec i.c hk (rg_bd (b := 9) (by decide) (by decide) c2))
    · rw [if_neg c2]; exact i
  · rw [if_neg c1]; exact i
theorem iv_chip (i : IV s) {a x v : Int32} : IV (oChip s a x v).2 := by
  unfold oChip
  have h4 := i.c.n4
  by_cases c1 : chB s.c.n a x = true
  · rw [if_pos c1]
    rcases rgB_cases (a := 1) (b := 9) (by omega) (by omega) v with ⟨e, w, w1, w9, rfl⟩ | ⟨e, _⟩
    · rw [e, if_pos rfl]
      unfold oAdd
      by_cases c2 : s.c.m 1 = 12
      · rw [if_pos c2]; exact i
      · rw [if_neg c2]
        have hm := i.c.cm
        refine iv_c i (ic_a1 i.c (by omega) ?_)
        by_cases a0 : a = nI 0
        · subst a0
          rw [chB_0] at c1
          obtain ⟨k, hk, rfl⟩ := ltB_spec c1
          exact ⟨0, k, w, rfl, rfl, rfl, by decide, by rw [if_neg (by decide)]; omega, w1, w9⟩
        by_cases a1 : a = nI 1
        · subst a1
          rw [chB_1] at c1
          obtain ⟨k, hk, rfl⟩ := ltB_spec c1
          exact ⟨1, k, w, rfl, rfl, rfl, by decide, by rw [if_neg (by decide)]; omega, w1, w9⟩
        by_cases a2 : a = nI 2
        · subst a2
          rw [chB_2] at c1
          obtain ⟨k, hk, rfl⟩ := ltB_spec c1
          exact ⟨2, k, w, rfl, rfl, rfl, by decide, by rw [if_pos rfl]; omega, w1, w9⟩
        rw [chB_n a0 a1 a2] at c1
        cases c1
    · rw [e]; exact i
  · rw [if_neg c1]; exact i
theorem iv_take (i : IV s) : IV (oTake s).2 := by
  unfold oTake
  by_cases c : tkB (prodE s.c) s.c.n = true
  · rw [if_pos c]
    refine iv_c i (ic_tab i.c (fun a b ha hb => ?_))
    have t := tkB_t.mp c a b ha hb
    rw [Int64.le_iff_toInt_le, show (lN 99).toInt = 99 by decide] at t
    have p : 0 ≤ (prodE s.c (4 * a + b)).toInt := (pst_b i.c.n4 i.c.cm i.c.ck _ (Nat.le_refl _) (4 * a + b)).1
    unfold bd
    omega
  · rw [if_neg c]; exact i
theorem iv_feed (i : IV s) {x : Int32} : IV (oFeed s x).2 := by
  unfold oFeed
  by_cases c1 : rgB (nI 0) (nI 127) x = true
  · rw [if_pos c1]
    by_cases c2 : s.tm = 100
    · rw [if_pos c2]; exact i
    · rw [if_neg c2]
      have := i.tm
      exact IV.mk i.c i.im (show s.tm + 1 ≤ 100 by omega) i.ts
  · rw [if_neg c1]; exact i
theorem iv_see (i : IV s) {x y v : Int32} : IV (oSee s x y v).2 := by
  unfold oSee
  by_cases c0 : x = -(nI 1)
  · rw [if_pos c0]; exact iv_c i (ic_z3 i.c)
  rw [if_neg c0]
  by_cases c1 : mnB s.c.n x y = true
  · rw [if_pos c1]
    by_cases c2 : rgB (-(nI 99999)) (nI 99999) v = true
    · rw [if_pos c2]
      unfold oAdd
      by_cases c3 : s.c.m 3 = 4
      · rw [if_pos c3]; exact i
      · rw [if_neg c3]
        have hm := i.c.sm
        obtain ⟨R, C, e1, e2, r1, r2, r3, r4, r5⟩ := mnB_spec i.c.n4 c1
        have hp : 2 ^ s.c.n ≤ 2 ^ 4 := Nat.pow_le_pow_right (by omega) i.c.n4
        exact iv_c i (ic_a3 i.c (by omega) ⟨R, C, e1, e2, by omega, by omega⟩)
    · rw [if_neg c2]; exact i
  · rw [if_neg c1]; exact i
theorem iv_event (i : IV s) {a x : Int32} : IV (oEvent s a x).2 := by
  unfold oEvent
  have h4 := i.c.n4
  by_cases c0 : a = -(nI 1)
  · rw [if_pos c0]; exact iv_c i (ic_z4 i.c)
  rw [if_neg c0]
  by_cases c1 : evB s.c.n a x = true
  · rw [if_pos c1]
    by_cases c2 : a = nI 3 ∧ x ≠ nI 0
    · rw [if_pos c2]; exact i
    · rw [if_neg c2]
      unfold oAdd
      by_cases c3 : s.c.m 4 = 8
      · rw [if_pos c3]; exact i
      · rw [if_neg c3]
        have hm := i.c.em
        refine iv_c i (ic_a4 i.c (by omega) ?_)
        by_cases a0 : a = nI 0
        · subst a0
          rw [evB_0] at c1
          obtain ⟨p, q, hp, _, hq, e, _⟩ := spB_spec c1
          exact ⟨0, rfl, by decide, fun _ => ⟨p, q, by omega, by omega, e⟩, fun z => by cases z⟩
        by_cases a1 : a = nI 1
        · subst a1
          rw [evB_1] at c1
          obtain ⟨p, q, hp, _, hq, e, _⟩ := spB_spec c1
          exact ⟨1, rfl, by decide, fun _ => ⟨p, q, by omega, by omega, e⟩, fun z => by cases z⟩
        by_cases a2 : a = nI 2
        · subst a2
          rw [evB_2] at c1
          obtain ⟨k, hk, e⟩ := ltB_spec c1
          exact ⟨2, rfl, by decide, fun z => absurd z (by decide), fun _ => ⟨k, by omega, e⟩⟩
        by_cases a3 : a = nI 3
        · exact ⟨3, a3, by decide, fun z => absurd z (by decide), fun z => by cases z⟩
        rw [evB_n a0 a1 a2 a3] at c1
        cases c1
  · rw [if_neg c1]; exact i
theorem iv_book (i : IV s) {x v : Int32} : IV (oBook s x v).2 := by
  unfold oBook
  have h4 := i.c.n4
  by_cases c0 : x = -(nI 1)
  · rw [if_pos c0]; exact iv_c i (ic_z5 i.c)
  rw [if_neg c0]
  by_cases c1 : spB s.c.n x = true
  · rw [if_pos c1]
    by_cases c2 : rgB (-(nI 99)) (nI 99) v = true
    · rw [if_pos c2]
      unfold oAdd
      by_cases c3 : s.c.m 5 = 8
      · rw [if_pos c3]; exact i
      · rw [if_neg c3]
        have hm := i.c.bm
        obtain ⟨p, q, hp, _, hq, e, _⟩ := spB_spec c1
        exact iv_c i (ic_a5 i.c (by omega) ⟨p, q, by omega, by omega, e⟩)
    · rw [if_neg c2]; exact i
  · rw [if_neg c1]; exact i
theorem iv_minor (i : IV s) {x y : Int32} : IV (oMinor s x y).2 := by
  unfold oMinor
  by_cases c1 : mnB s.c.n x y = true
  · rw [if_pos c1]
    show IV (if hld (s.c.r 2) (s.c.m 2) x y = true then s else s.sc (s.c.add 2 x y (nI 0)))
    by_cases c2 : hld (s.c.r 2) (s.c.m 2) x y = true
    · rw [if_pos c2]; exact i
    · rw [if_neg c2]
      have nin : ∀ k, k < s.c.m 2 → ¬ (s.c.r 2 k 0 = x ∧ s.c.r 2 k 1 = y) := fun k hk z => c2 (hld_t ⟨k, hk, z⟩)
      exact iv_c i (ic_a2 i.c (note_room i.c c1 nin) (mnB_spec i.c.n4 c1) nin)
  · rw [if_neg c1]; exact i
theorem iv_image (i : IV s) : IV (oImage s).2 := IV.mk i.c (fun c e => by cases e; exact i.c) i.tm i.ts
theorem iv_undo (i : IV s) : IV (oUndo s).2 := by
  unfold oUndo
  cases e : s.im with
  | none => exact i
  | some c => exact iv_c i (i.im c e)
theorem iv_ts (i : IV s) {t a b : Nat} {f : Nat → Int64} (h5 : a ≤ 5) (h6 : b ≤ 60) (h0 : a = 0 → b = 0) : IV (tset s t a b f) := by
  refine IV.mk i.c i.im i.tm (fun u hu => ?_)
  show up s.ts t a u ≤ 5 ∧ up s.th t b u ≤ 60 ∧ (up s.ts t a u = 0 → up s.th t b u = 0)
  by_cases e : u = t
  · rw [e, up_s, up_s]; exact ⟨h5, h6, h0⟩
  · rw [up_n e, up_n e]; exact i.ts u hu
theorem iv_tape (i : IV s) {t k n : Int32} : IV (oTape s t k n).2 := by
  unfold oTape
  by_cases c1 : ltB 6 t = true
  · rw [if_pos c1]
    by_cases c2 : k = -(nI 1)
    · rw [if_pos c2]; exact iv_ts i (by decide) (by decide) (fun _ => rfl)
    rw [if_neg c2]
    rcases rgB_cases (a := 0) (b := 4) (by omega) (by omega) k with ⟨e, w, _, w4, rfl⟩ | ⟨e, _⟩
    · rw [e, if_pos rfl]
      by_cases c3 : nI 60 < n
      · rw [if_pos c3]; exact i
      rw [if_neg c3]
      by_cases c4 : n < nI 0
      · rw [if_pos c4]; exact i
      rw [if_neg c4]
      rcases nI_or n with z | ⟨m, hm, rfl⟩
      · exact absurd z c4
      · have : m ≤ 60 := Nat.le_of_not_lt (fun z => c3 ((nI_ltI (by omega) hm).mpr z))
        rw [nI_clamp (by omega), nI_clamp hm]
        exact iv_ts i (by omega) this (fun z => absurd z (Nat.succ_ne_zero w))
    · rw [e]; exact i
  · rw [if_neg c1]; exact i
theorem iv_tp (i : IV s) {t : Nat} {f : Nat → Int64} : IV (tput s t f) := IV.mk i.c i.im i.tm i.ts
theorem iv_item (i : IV s) {t x : Int32} {v : Int64} : IV (oItem s t x v).2 := by
  unfold oItem
  by_cases c1 : ltB 6 t = true
  · rw [if_pos c1]
    by_cases c2 : s.ts t.toNatClampNeg = 0
    · rw [if_pos c2]; exact i
    rw [if_neg c2]
    by_cases c3 : ltB (s.th t.toNatClampNeg) x = true
    · rw [if_pos c3]; exact iv_tp i
    · rw [if_neg c3]; exact i
  · rw [if_neg c1]; exact i
theorem iv_shift (i : IV s) {t x u y n : Int32} : IV (oShift s t x u y n).2 := by
  unfold oShift
  by_cases c1 : ltB 6 t = true ∧ ltB 6 u = true
  · rw [if_pos c1]
    by_cases c2 : s.ts t.toNatClampNeg = 0 ∨ s.ts u.toNatClampNeg = 0
    · rw [if_pos c2]; exact i
    rw [if_neg c2]
    by_cases c3 : s.ts t.toNatClampNeg = s.ts u.toNatClampNeg
    · rw [if_pos c3]
      by_cases c4 : hpB (s.th t.toNatClampNeg) x n = true ∧ hpB (s.th u.toNatClampNeg) y n = true
      · rw [if_pos c4]; exact iv_tp i
      · rw [if_neg c4]; exact i
    · rw [if_neg c3]; exact i
  · rw [if_neg c1]; exact i
end IVS
