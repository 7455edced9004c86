/-! the text: which clauses it tells, where it goes wrong -/
abbrev Rw := Nat × Int32 × Int32
def hr (s : St) (p : Nat) : Int32 := if p < s.tm then s.tx p else -(nI 1)
def dg (x : Int32) : Bool := rgB (nI 48) (nI 57) x
def dv (x : Int32) : Int32 := x - nI 48
def kcode (k : Nat) : Nat := if k = 0 then 110 else if k = 1 then 97 else if k = 2 then 120 else if k = 3 then 121 else if k = 4 then 100 else if k = 5 then 122 else if k = 6 then 116 else if k = 7 then 102 else 118
def kdig (k : Nat) : Nat := if k = 1 then 2 else if k = 5 ∨ k = 6 ∨ k = 7 then 0 else 1
def kbare (k : Nat) : Bool := decide (k = 0 ∨ k = 5 ∨ k = 6 ∨ k = 7)
def pQ (s : St) (p : Nat) : Nat := if hr s p = nI 45 then p + 1 else p
def pS (s : St) (p : Nat) (v : Int32) : Int32 := if hr s p = nI 45 then -v else v
def pN (s : St) (p : Nat) : Bool × Nat × Int32 := if dg (hr s (pQ s p)) = true then (if dg (hr s (pQ s p + 1)) = true then (true, pQ s p + 2, pS s p (nI 10 * dv (hr s (pQ s p)) + dv (hr s (pQ s p + 1)))) else (true, pQ s p + 1, pS s p (dv (hr s (pQ s p))))) else (false, pQ s p, 0)
def pE (s : St) (k p : Nat) (x : Int32) : Bool × Nat × Rw := if kbare k = true then (true, p, k, x, nI 0) else ((pN s p).1, (pN s p).2.1, k, x, (pN s p).2.2)
def pK (s : St) (k p : Nat) : Bool × Nat × Rw := if kdig k = 0 then pE s k (p + 1) (nI 0) else if dg (hr s (p + 1)) = true then (if kdig k = 1 then pE s k (p + 2) (dv (hr s (p + 1))) else if dg (hr s (p + 2)) = true then pE s k (p + 3) (nI 10 * dv (hr s (p + 1)) + dv (hr s (p + 2))) else (false, p + 2, 0, 0, 0)) else (false, p + 1, 0, 0, 0)
/-- the letter -/
def kOf (x : Int32) : Nat := if x = nI 110 then 0 else if x = nI 97 then 1 else if x = nI 120 then 2 else if x = nI 121 then 3 else if x = nI 100 then 4 else if x = nI 122 then 5 else if x = nI 116 then 6 else if x = nI 102 then 7 else if x = nI 118 then 8 else 9
def pC (s : St) (p : Nat) : Bool × Nat × Rw := if kOf (hr s p) = 9 then (false, p, 0, 0, 0) else pK s (kOf (hr s p)) p
def pT (s : St) : Nat → Nat → Option Nat × List Rw
  | 0, p => (some p, [])
  | r + 1, p => if (pC s p).1 = true then (if (pC s p).2.1 = s.tm then (none, [(pC s p).2.2]) else if r = 0 ∨ hr s (pC s p).2.1 ≠ nI 59 then (some (pC s p).2.1, []) else ((pT s r ((pC s p).2.1 + 1)).1, (pC s p).2.2 :: (pT s r ((pC s p).2.1 + 1)).2)) else (some (pC s p).2.1, [])
def oDo (x : Rw) (s : St) : Int32 × St := if x.1 = 0 then oSize s x.2.1 else if x.1 = 1 then oSet s x.2.1 x.2.2 else if x.1 = 2 then oChip s (nI 0) x.2.1 x.2.2 else if x.1 = 3 then oChip s (nI 1) x.2.1 x.2.2 else if x.1 = 4 then oChip s (nI 2) x.2.1 x.2.2 else if x.1 = 5 then oClear s else if x.1 = 6 then oTake s else if x.1 = 7 then oFlip s else oVector s x.2.1 x.2.2
def oRun : List Rw → Nat → St → Nat × St
  | [], m, s => (m, s)
  | x :: l, m, s => oRun l (if (oDo x s).1 < nI 0 then m else m + 1) (oDo x s).2
abbrev St.t0 (s : St) : St := (s.1, s.2.1, (0, s.2.2.1.2), s.2.2.2)
def oRead (s : St) : Int32 × St := match (pT s 12 0).1 with
  | some f => (-(nI 10) - nI f, s.t0)
  | none => (nI (oRun (pT s 12 0).2 0 s.t0).1, (oRun (pT s 12 0).2 0 s.t0).2)
theorem kOf_k {x : Int32} (h : kOf x ≠ 9) : kOf x < 9 ∧ x = nI (kcode (kOf x)) := by
  unfold kOf at h ⊢
  by_cases e : x = nI 110
  · rw [if_pos e]; exact ⟨by decide, e⟩
  rw [if_neg e] at h ⊢
  by_cases e : x = nI 97
  · rw [if_pos e]; exact ⟨by decide, e⟩
  rw [if_neg e] at h ⊢
  by_cases e : x = nI 120
  · rw [if_pos e]; exact ⟨by decide, e⟩
  rw [if_neg e] at h ⊢
  by_cases e : x = nI 121
  · rw [if_pos e]; exact ⟨by decide, e⟩
  rw [if_neg e] at h ⊢
  by_cases e : x = nI 100
  · rw [if_pos e]; exact ⟨by decide, e⟩
  rw [if_neg e] at h ⊢
  by_cases e : x = nI 122
  · rw [if_pos e]; exact ⟨by decide, e⟩
  rw [if_neg e] at h ⊢
  by_cases e : x = nI 116
  · rw [if_pos e]; exact ⟨by decide, e⟩
  rw [if_neg e] at h ⊢
  by_cases e : x = nI 102
  · rw [if_pos e]; exact ⟨by decide, e⟩
  rw [if_neg e] at h ⊢
  by_cases e : x = nI 118
  · rw [if_pos e]; exact ⟨by decide, e⟩
  rw [if_neg e] at h
  exact absurd rfl h
theorem kOf_n {x : Int32} (h : kOf x = 9) : x ≠ nI 110 ∧ x ≠ nI 97 ∧ x ≠ nI 120 ∧ x ≠ nI 121 ∧ x ≠ nI 100 ∧ x ≠ nI 122 ∧ x ≠ nI 116 ∧ x ≠ nI 102 ∧ x ≠ nI 118 := by
  refine ⟨?_, ?_, ?_, ?_, ?_, ?_, ?_, ?_, ?_⟩ <;> (intro e; subst e; revert h; decide)
theorem kk9 {k : Nat} (h : k < 9) : k = 0 ∨ k = 1 ∨ k = 2 ∨ k = 3 ∨ k = 4 ∨ k = 5 ∨ k = 6 ∨ k = 7 ∨ k = 8 := by omega
theorem dg_t {x : Int32} (h : dg x = true) : ∃ k, k < 10 ∧ x = nI (48 + k) := by
  rcases rgB_cases (a := 48) (b := 57) (by omega) (by omega) x with ⟨_, k, h1, h2, e⟩ | ⟨e, _⟩
  · exact ⟨k - 48, by omega, by rw [e]; congr 1; omega⟩
  · unfold dg at h; rw [e] at h; cases h
theorem d10 {k : Nat} (h : k < 10) : k = 0 ∨ k = 1 ∨ k = 2 ∨ k = 3 ∨ k = 4 ∨ k = 5 ∨ k = 6 ∨ k = 7 ∨ k = 8 ∨ k = 9 := by omega
theorem dv_n {k : Nat} (h : k < 10) : dv (nI (48 + k)) = nI k := by
  rcases d10 h with rfl | rfl | rfl | rfl | rfl | rfl | rfl | rfl | rfl | rfl <;> rfl
theorem dg_n {k : Nat} (h : k < 10) : dg (nI (48 + k)) = true := by
  rcases d10 h with rfl | rfl | rfl | rfl | rfl | rfl | rfl | rfl | rfl | rfl <;> rfl
/-- the reference asks for the digit's value -/
theorem dg_v (x : Int32) : rgB (nI 0) (nI 9) (dv x) = dg x := by
  cases h : dg x with
  | true =>
    obtain ⟨k, hk, rfl⟩ := dg_t h
    rw [dv_n hk]
    rcases d10 hk with rfl | rfl | rfl | rfl | rfl | rfl | rfl | rfl | rfl | rfl <;> rfl
  | false =>
    rcases rgB_cases (a := 0) (b := 9) (by omega) (by omega) (dv x) with ⟨_, k, h1, h2, e⟩ | ⟨e, _⟩
    · have : x = nI (48 + k) := by
        have z : x = dv x + nI 48 := by unfold dv; rw [Int32.sub_add_cancel]
        rw [z, e]
        rcases d10 (show k < 10 by omega) with rfl | rfl | rfl | rfl | rfl | rfl | rfl | rfl | rfl | rfl <;> rfl
      rw [this, dg_n (by omega)] at h
      cases h
    · exact e
theorem hr_lt {s : St} {p : Nat} (h : hr s p ≠ -(nI 1)) : p < s.tm := by
  by_cases c : p < s.tm
  · exact c
  · unfold hr at h; rw [if_neg c] at h; exact absurd rfl h
theorem hr_dg {s : St} {p : Nat} (h : dg (hr s p) = true) : p < s.tm := by
  refine hr_lt (fun e => ?_)
  rw [e] at h
  revert h
  decide
theorem hr_e {s : St} {p k : Nat} (h : hr s p = nI k) (hk : nI k ≠ -(nI 1)) : p < s.tm := hr_lt (fun e => hk (h.symm.trans e))
theorem kc_ne {k : Nat} (h : k < 9) : nI (kcode k) ≠ -(nI 1) := by
  rcases kk9 h with rfl | rfl | rfl | rfl | rfl | rfl | rfl | rfl | rfl <;> decide
theorem pQ_le {s : St} {p : Nat} (h : p ≤ s.tm) : pQ s p ≤ s.tm := by
  unfold pQ
  by_cases c : hr s p = nI 45
  · rw [if_pos c]; exact hr_e c (by decide)
  · rw [if_neg c]; exact h
theorem pN_le {s : St} {p : Nat} (h : p ≤ s.tm) : (pN s p).2.1 ≤ s.tm := by
  have := pQ_le h
  unfold pN
  by_cases c : dg (hr s (pQ s p)) = true
  · rw [if_pos c]
    have a := hr_dg c
    by_cases c2 : dg (hr s (pQ s p + 1)) = true
    · rw [if_pos c2]
      exact hr_dg c2
    · rw [if_neg c2]; exact a
  · rw [if_neg c]; exact this
theorem pE_le {s : St} {k p : Nat} {x : Int32} (h : p ≤ s.tm) : (pE s k p x).2.1 ≤ s.tm := by
  unfold pE
  by_cases c : kbare k = true
  · rw [if_pos c]; exact h
  · rw [if_neg c]; exact pN_le h
theorem pC_le {s : St} {p : Nat} (h : p ≤ s.tm) : (pC s p).2.1 ≤ s.tm := by
  unfold pC
  by_cases c : kOf (hr s p) = 9
  · rw [if_pos c]; exact h
  · rw [if_neg c]
    obtain ⟨k9, e⟩ := kOf_k c
    have p0 : p < s.tm := hr_e e (kc_ne k9)
    unfold pK
    by_cases c1 : kdig (kOf (hr s p)) = 0
    · rw [if_pos c1]; exact pE_le p0
    rw [if_neg c1]
    by_cases c2 : dg (hr s (p + 1)) = true
    · rw [if_pos c2]
      have p1 := hr_dg c2
      by_cases c3 : kdig (kOf (hr s p)) = 1
      · rw [if_pos c3]; exact pE_le p1
      rw [if_neg c3]
      by_cases c4 : dg (hr s (p + 2)) = true
      · rw [if_pos c4]; exact pE_le (hr_dg c4)
      · rw [if_neg c4]; exact p1
    · rw [if_neg c2]; exact p0
theorem pE_k {s : St} {k p : Nat} {x : Int32} : (pE s k p x).2.2.1 = k := by
  unfold pE
  by_cases c : kbare k = true
  · rw [if_pos c]
  · rw [if_neg c]
/-- what a clause tells has a letter -/
theorem pC_k {s : St} {p : Nat} : (pC s p).2.2.1 < 9 := by
  unfold pC
  by_cases c : kOf (hr s p) = 9
  · rw [if_pos c]; exact Nat.zero_lt_succ _
  · rw [if_neg c]
    obtain ⟨k9, e⟩ := kOf_k c
    unfold pK
    by_cases c1 : kdig (kOf (hr s p)) = 0
    · rw [if_pos c1, pE_k]; exact k9
    rw [if_neg c1]
    by_cases c2 : dg (hr s (p + 1)) = true
    · rw [if_pos c2]
      by_cases c3 : kdig (kOf (hr s p)) = 1
      · rw [if_pos c3, pE_k]; exact k9
      rw [if_neg c3]
      by_cases c4 : dg (hr s (p + 2)) = true
      · rw [if_pos c4, pE_k]; exact k9
      · rw [if_neg c4]; exact Nat.zero_lt_succ _
    · rw [if_neg c2]; exact Nat.zero_lt_succ _
theorem pT_k {s : St} : ∀ r p x, x ∈ (pT s r p).2 → x.1 < 9 := by
  intro r
  induction r with
  | zero => intro p x h; exact absurd h List.not_mem_nil
  | succ r ih =>
    intro p x h
    rw [pT] at h
    by_cases c1 : (pC s p).1 = true
    · rw [if_pos c1] at h
      by_cases c2 : (pC s p).2.1 = s.tm
      · rw [if_pos c2] at h
        rw [List.mem_singleton.mp h]
        exact pC_k
      rw [if_neg c2] at h
      by_cases c3 : r = 0 ∨ hr s (pC s p).2.1 ≠ nI 59
      · rw [if_pos c3] at h; exact absurd h List.not_mem_nil
      rw [if_neg c3] at h
      rcases List.mem_cons.mp h with e | e
      · rw [e]; exact pC_k
      · exact ih _ x e
    · rw [if_neg c1] at h; exact absurd h List.not_mem_nil
theorem pT_l {s : St} : ∀ r p, (pT s r p).2.length ≤ r := by
  intro r
  induction r with
  | zero => intro p; exact Nat.le_refl 0
  | succ r ih =>
    intro p
    rw [pT]
    by_cases c1 : (pC s p).1 = true
    · rw [if_pos c1]
      by_cases c2 : (pC s p).2.1 = s.tm
      · rw [if_pos c2]; exact Nat.succ_le_succ (Nat.zero_le r)
      rw [if_neg c2]
      by_cases c3 : r = 0 ∨ hr s (pC s p).2.1 ≠ nI 59
      · rw [if_pos c3]; exact Nat.zero_le _
      rw [if_neg c3]
      exact Nat.succ_le_succ (ih _)
    · rw [if_neg c1]; exact Nat.zero_le _
theorem pT_f {s : St} : ∀ r p f, p ≤ s.tm → (pT s r p).1 = some f → f ≤ s.tm := by
  intro r
  induction r with
  | zero => intro p f hp e; cases e; exact hp
  | succ r ih =>
    intro p f hp e
    rw [pT] at e
    have le := pC_le hp
    by_cases c1 : (pC s p).1 = true
    · rw [if_pos c1] at e
      by_cases c2 : (pC s p).2.1 = s.tm
      · rw [if_pos c2] at e; cases e
      rw [if_neg c2] at e
      by_cases c3 : r = 0 ∨ hr s (pC s p).2.1 ≠ nI 59
      · rw [if_pos c3] at e; cases e; exact le
      rw [if_neg c3] at e
      exact ih _ f (by omega) e
    · rw [if_neg c1] at e; cases e; exact le
theorem iv_t0 {s : St} (i : IV s) : IV s.t0 := IV.mk i.c i.im (Nat.zero_le _) i.ts
theorem iv_do {s : St} (i : IV s) {x : Rw} : IV (oDo x s).2 := by
  unfold oDo
  by_cases c : x.1 = 0
  · rw [if_pos c]; exact iv_size i
  rw [if_neg c]
  by_cases c : x.1 = 1
  · rw [if_pos c]; exact iv_set i
  rw [if_neg c]
  by_cases c : x.1 = 2
  · rw [if_pos c]; exact iv_chip i
  rw [if_neg c]
  by_cases c : x.1 = 3
  · rw [if_pos c]; exact iv_chip i
  rw [if_neg c]
  by_cases c : x.1 = 4
  · rw [if_pos c]; exact iv_chip i
  rw [if_neg c]
  by_cases c : x.1 = 5
  · rw [if_pos c]; exact iv_clear i
  rw [if_neg c]
  by_cases c : x.1 = 6
  · rw [if_pos c]; exact iv_take i
  rw [if_neg c]
  by_cases c : x.1 = 7
  · rw [if_pos c]; exact iv_flip i
  rw [if_neg c]
  exact iv_vector i
theorem iv_run : ∀ (l : List Rw) (m : Nat) (s : St), IV s → IV (oRun l m s).2 := by
  intro l
  induction l with
  | nil => intro m s i; exact i
  | cons x l ih => intro m s i; exact ih _ _ (iv_do i)
theorem iv_read {s : St} (i : IV s) : IV (oRead s).2 := by
  unfold oRead
  cases (pT s 12 0).1 with
  | some f => exact iv_t0 i
  | none => exact iv_run _ _ _ (iv_t0 i)
