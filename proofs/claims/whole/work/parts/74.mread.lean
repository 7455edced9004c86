/-! the reference: texts -/
def FQ (τ τ' : Nat → Int32) : Prop := ∀ k, k ≠ 5816 → k ≠ 5817 → τ' k = τ k
theorem FQ.refl {τ : Nat → Int32} : FQ τ τ := fun _ _ _ => rfl
theorem FQ.t6 {τ τ' : Nat → Int32} {x : Int32} (h : FQ τ τ') : FQ τ (up τ' 5816 x) := fun k a b => (up_n a).trans (h k a b)
theorem FQ.t7 {τ τ' : Nat → Int32} {x : Int32} (h : FQ τ τ') : FQ τ (up τ' 5817 x) := fun k a b => (up_n b).trans (h k a b)
theorem FQ.trans {τ τ' τ'' : Nat → Int32} (h : FQ τ τ') (g : FQ τ' τ'') : FQ τ τ'' := fun k a b => (g k a b).trans (h k a b)
def TM (s : St) (τ : Nat → Int32) (A : Nat → Nat → Int32) : Prop := τ 5815 = nI s.tm ∧ ∀ k, k < s.tm → A 70 k = s.tx k
theorem TM.fq {s : St} {τ τ' : Nat → Int32} {A : Nat → Nat → Int32} (h : TM s τ A) (f : FQ τ τ') : TM s τ' A := ⟨(f 5815 (by omega) (by omega)).trans h.1, h.2⟩
def FR (τ : Nat → Int32) (A : Nat → Nat → Int32) (τ' : Nat → Int32) (A' : Nat → Nat → Int32) : Prop := (∀ k, k ≠ 5816 → k ≠ 5817 → k ≠ 5822 → τ' k = τ k) ∧ ∀ k, (k < 71 ∨ 74 < k) → A' k = A k
def LW (A A' : Nat → Nat → Int32) (m : Nat) : Prop := ∀ b k, k < m → A' b k = A b k
/-- a clause in the reference's rows -/
def RQ (A : Nat → Nat → Int32) (m : Nat) (x : Rw) : Prop := A 71 m = nI (kcode x.1) ∧ (x.1 = 1 → nI 10 * A 72 m + A 73 m = x.2.1) ∧ (kdig x.1 = 1 → A 72 m = x.2.1) ∧ (kbare x.1 = false → A 74 m = x.2.2)
section FRs
variable {τ τ' τ'' : Nat → Int32} {A A' A'' : Nat → Nat → Int32} {B : Nat → Nat → Int64} {s : St}
theorem FR.refl : FR τ A τ A := ⟨fun _ _ _ _ => rfl, fun _ _ => rfl⟩
theorem FR.fq (h : FR τ A τ' A') (g : FQ τ' τ'') : FR τ A τ'' A' := ⟨fun k a b c => (g k a b).trans (h.1 k a b c), h.2⟩
theorem FR.t22 {x : Int32} (h : FR τ A τ' A') : FR τ A (up τ' 5822 x) A' := ⟨fun k a b c => (up_n c).trans (h.1 k a b c), h.2⟩
theorem FR.a {a : Nat} {x : Nat → Int32} (ha : 71 ≤ a ∧ a ≤ 74) (h : FR τ A τ' A') : FR τ A τ' (up A' a x) := ⟨h.1, fun k c => (up_n (by omega)).trans (h.2 k c)⟩
theorem FR.trans (h : FR τ A τ' A') (g : FR τ' A' τ'' A'') : FR τ A τ'' A'' := ⟨fun k a b c => (g.1 k a b c).trans (h.1 k a b c), fun k c => (g.2 k c).trans (h.2 k c)⟩
theorem FR.fm (h : FR τ A τ' A') : FM τ A B τ' A' B := ⟨fun k hk => h.1 k (by omega) (by omega) (by omega), fun k hk => h.2 k (by omega), fun _ _ => rfl⟩
theorem TM.fr (h : TM s τ A) (f : FR τ A τ' A') : TM s τ' A' := ⟨(f.1 5815 (by omega) (by omega) (by omega)).trans h.1, fun k hk => by rw [f.2 70 (by omega)]; exact h.2 k hk⟩
theorem LW.refl {m : Nat} : LW A A m := fun _ _ _ => rfl
theorem LW.up {m a : Nat} {x : Int32} (h : LW A A' m) : LW A (up A' a (up (A' a) m x)) m := by
  intro b k hk
  by_cases e : b = a
  · subst e
    rw [up_s, up_n (by omega)]
    exact h b k hk
  · rw [up_n e]
    exact h b k hk
theorem LW.trans {m l : Nat} (h : LW A A' m) (g : LW A' A'' l) (hl : m ≤ l) : LW A A'' m := fun b k hk => (g b k (by omega)).trans (h b k hk)
theorem RQ.lw {m k : Nat} {x : Rw} (h : RQ A k x) (f : LW A A' m) (hk : k < m) : RQ A' k x := by
  unfold RQ
  rw [f 71 k hk, f 72 k hk, f 73 k hk, f 74 k hk]
  exact h
theorem RM.fr (r : RM s τ A B) (h : FR τ A τ' A') : RM s τ' A' B := by
  have ht := h.1
  have ha := h.2
  refine RM.mk ?_ ?_ ?_ ?_ ?_ ?_ ?_ ?_ ?_ ?_ ?_ ?_ ?_ ?_ ?_ ?_ ?_ ?_ ?_ ?_
  all_goals first | simp only [ht 5800 (by decide) (by decide) (by decide), ht 5808 (by decide) (by decide) (by decide), ht 5805 (by decide) (by decide) (by decide), ht 5826 (by decide) (by decide) (by decide), ht 5829 (by decide) (by decide) (by decide), ht 5832 (by decide) (by decide) (by decide), ht 5815 (by decide) (by decide) (by decide), ht 5837 (by decide) (by decide) (by decide), ht 5845 (by decide) (by decide) (by decide), ht 5846 (by decide) (by decide) (by decide), ht 5847 (by decide) (by decide) (by decide), ht 5848 (by decide) (by decide) (by decide), ht 5849 (by decide) (by decide) (by decide), ha 59 (by decide), ha 60 (by decide), ha 62 (by decide), ha 65 (by decide), ha 66 (by decide), ha 67 (by decide), ha 70 (by decide), ha 75 (by decide), ha 76 (by decide), ha 77 (by decide), ha 78 (by decide), ha 79 (by decide), ha 80 (by decide), ha 81 (by decide), ha 82 (by decide), ha 83 (by decide), ha 86 (by decide), ha 87 (by decide), ha 88 (by decide), ha 89 (by decide), ha 90 (by decide), ha 91 (by decide), ha 92 (by decide)] | skip
  · exact r.n
  · exact r.E
  · exact r.V
  · exact r.cm
  · exact r.ck
  · exact r.nm
  · exact r.nt
  · exact r.sm
  · exact r.se
  · exact r.em
  · exact r.ev
  · exact r.bm
  · exact r.bk
  · exact r.tm
  · exact r.tx
  · exact r.ts
  · exact r.tl
  · exact r.ti
  · exact r.im0
  · exact r.im1
theorem RM.t0 (h : RM s τ A B) : RM s.t0 (up τ 5815 (nI 0)) A B := (RM.mk h.n h.E h.V h.cm h.ck h.nm h.nt h.sm h.se h.em h.ev h.bm h.bk (rfl) (fun k hk => absurd hk (Nat.not_lt_zero k)) h.ts h.tl h.ti h.im0 h.im1)
end FRs
section TXM
variable {d : Nat} {S : Cl} {τ : Nat → Int32} {A : Nat → Nat → Int32} {B : Nat → Nat → Int64} {Q : Option Value → Hp → Prop} {s : St} {p : Nat}
theorem cm_here (ht : s.tm ≤ 100) (h : TM s τ A) (h6 : τ 5816 = nI p) (hp : p ≤ 110) (q : Q (some (.int (hr s p))) (HH S τ A B)) : CC d M_M_here [.ref 58] (HH S τ A B) Q := by
  have h5 := h.1
  refine CC.of rfl ?_
  unfold hr at q
  by_cases c : p < s.tm
  · rw [if_pos c, ← h.2 p c] at q
    repeat (first | refine VV.g58n rfl rfl h5 ?_ | refine VV.g58n rfl rfl h6 ?_ | refine VV.g58 rfl rfl ?_ | refine VV.pf rfl rfl ?_ | refine VV.add rfl ?_ | refine VV.inc rfl rfl rfl ?_ | refine VV.mul rfl ?_ | refine VV.sub rfl (by omega) ?_ | refine VV.shl1 rfl (by omega) ?_ | refine VV.shl rfl ⟨by omega, by omega⟩ ?_ | refine VV.shr rfl ⟨by omega, by omega⟩ ?_ | refine VV.and rfl ?_ | refine VV.div rfl ⟨by omega, by omega, by omega⟩ ?_ | refine VV.rem rfl ⟨by omega, by omega, by omega⟩ ?_ | refine VV.s rfl ?_  | refine VV.b (b_ltT (by omega) (by omega)) ?_ | refine VV.b (b_ltF (by omega) (by omega)) ?_ | refine VV.b (b_geT (by omega) (by omega)) ?_ | refine VV.b (b_geF (by omega) (by omega)) ?_ | refine VV.b (b_gtT (by omega) (by omega)) ?_ | refine VV.b (b_gtF (by omega) (by omega)) ?_ | refine VV.b (b_leT (by omega) (by omega)) ?_ | refine VV.b (b_leF (by omega) (by omega)) ?_ | refine VV.b (b_eqT (by omega) (by omega)) ?_ | refine VV.b (b_eqF (by omega) (by omega)) ?_ | refine VV.b (b_neT (by omega) (by omega)) ?_ | refine VV.b (b_neF (by omega) (by omega)) ?_)
    refine VV.ia rfl rfl rfl (show p < 100 by omega) ?_
    repeat refine VV.s rfl ?_
    exact VV.r rfl q
  · rw [if_neg c] at q
    repeat (first | refine VV.g58n rfl rfl h5 ?_ | refine VV.g58n rfl rfl h6 ?_ | refine VV.g58 rfl rfl ?_ | refine VV.pf rfl rfl ?_ | refine VV.add rfl ?_ | refine VV.inc rfl rfl rfl ?_ | refine VV.mul rfl ?_ | refine VV.sub rfl (by omega) ?_ | refine VV.shl1 rfl (by omega) ?_ | refine VV.shl rfl ⟨by omega, by omega⟩ ?_ | refine VV.shr rfl ⟨by omega, by omega⟩ ?_ | refine VV.and rfl ?_ | refine VV.div rfl ⟨by omega, by omega, by omega⟩ ?_ | refine VV.rem rfl ⟨by omega, by omega, by omega⟩ ?_ | refine VV.s rfl ?_  | refine VV.b (b_ltT (by omega) (by omega)) ?_ | refine VV.b (b_ltF (by omega) (by omega)) ?_ | refine VV.b (b_geT (by omega) (by omega)) ?_ | refine VV.b (b_geF (by omega) (by omega)) ?_ | refine VV.b (b_gtT (by omega) (by omega)) ?_ | refine VV.b (b_gtF (by omega) (by omega)) ?_ | refine VV.b (b_leT (by omega) (by omega)) ?_ | refine VV.b (b_leF (by omega) (by omega)) ?_ | refine VV.b (b_eqT (by omega) (by omega)) ?_ | refine VV.b (b_eqF (by omega) (by omega)) ?_ | refine VV.b (b_neT (by omega) (by omega)) ?_ | refine VV.b (b_neF (by omega) (by omega)) ?_)
    exact VV.r rfl q
theorem cm_digit0 (ht : s.tm ≤ 100) (h : TM s τ A) (h6 : τ 5816 = nI p) (h7 : τ 5817 = nI 0) (hp : p ≤ 110) (q1 : dg (hr s p) = true → Q (some (.int (dv (hr s p)))) (HH S (up (up τ 5817 (nI 0)) 5816 (nI (p + 1))) A B)) (q0 : dg (hr s p) = false → Q (some (.int (dv (hr s p)))) (HH S (up τ 5817 (nI 1)) A B)) : CC (d + 1) M_M_digit [.ref 58] (HH S τ A B) Q := by
  refine CC.of rfl ?_
  repeat refine VV.s rfl ?_
  (refine VV.c rfl ?_; refine cm_here ht h h6 hp ?_)
  repeat (first | refine VV.g58n rfl rfl h7 ?_ | refine VV.g58 rfl rfl ?_ | refine VV.pf rfl rfl ?_ | refine VV.add rfl ?_ | refine VV.inc rfl rfl rfl ?_ | refine VV.mul rfl ?_ | refine VV.sub rfl (by omega) ?_ | refine VV.shl1 rfl (by omega) ?_ | refine VV.shl rfl ⟨by omega, by omega⟩ ?_ | refine VV.shr rfl ⟨by omega, by omega⟩ ?_ | refine VV.and rfl ?_ | refine VV.div rfl ⟨by omega, by omega, by omega⟩ ?_ | refine VV.rem rfl ⟨by omega, by omega, by omega⟩ ?_ | refine VV.s rfl ?_  | refine VV.b (b_ltT (by omega) (by omega)) ?_ | refine VV.b (b_ltF (by omega) (by omega)) ?_ | refine VV.b (b_geT (by omega) (by omega)) ?_ | refine VV.b (b_geF (by omega) (by omega)) ?_ | refine VV.b (b_gtT (by omega) (by omega)) ?_ | refine VV.b (b_gtF (by omega) (by omega)) ?_ | refine VV.b (b_leT (by omega) (by omega)) ?_ | refine VV.b (b_leF (by omega) (by omega)) ?_ | refine VV.b (b_eqT (by omega) (by omega)) ?_ | refine VV.b (b_eqF (by omega) (by omega)) ?_ | refine VV.b (b_neT (by omega) (by omega)) ?_ | refine VV.b (b_neF (by omega) (by omega)) ?_)
  (refine VV.c rfl ?_; refine cm_in (x := dv (hr s p)) (lo := nI 0) (hi := nI 9) rfl rfl ?_)
  rw [dg_v]
  cases c : dg (hr s p) with
  | true =>
    have q1 := q1 c
    show VV _ _ _ _ [.int (nI 1), .ref 58] _ _
    refine VV.s rfl ?_
    refine VV.b (b_neT (a := 1) (b := 0) (by omega) (by omega)) ?_
    refine VV.s rfl ?_
    refine VV.w5817 rfl rfl ?_
    refine VV.s rfl ?_
    refine VV.g58n rfl rfl (show up τ 5817 (nI 0) 5817 = nI 0 from rfl) ?_
    refine VV.s rfl ?_
    refine VV.b (b_neF (a := 0) (b := 0) rfl (by omega)) ?_
    refine VV.s rfl ?_
    refine VV.s rfl ?_
    refine VV.g58n rfl rfl (show up τ 5817 (nI 0) 5816 = nI p from h6) ?_
    refine VV.s rfl ?_
    refine VV.add rfl ?_
    refine VV.pf rfl rfl ?_
    repeat refine VV.s rfl ?_
    exact VV.r rfl q1
  | false =>
    have q0 := q0 c
    show VV _ _ _ _ [.int (nI 0), .ref 58] _ _
    refine VV.s rfl ?_
    refine VV.b (b_neF (a := 0) (b := 0) rfl (by omega)) ?_
    refine VV.s rfl ?_
    refine VV.s rfl ?_
    refine VV.w5817 rfl rfl ?_
    refine VV.s rfl ?_
    refine VV.g58n rfl rfl (show up τ 5817 (nI 1) 5817 = nI 1 from rfl) ?_
    refine VV.s rfl ?_
    refine VV.b (b_neT (a := 1) (b := 0) (by omega) (by omega)) ?_
    repeat refine VV.s rfl ?_
    exact VV.r rfl q0
theorem cm_digit1 (ht : s.tm ≤ 100) (h : TM s τ A) (h6 : τ 5816 = nI p) (h7 : τ 5817 = nI 1) (hp : p ≤ 110) (q : Q (some (.int (dv (hr s p)))) (HH S (up τ 5817 (nI 1)) A B)) : CC (d + 1) M_M_digit [.ref 58] (HH S τ A B) Q := by
  refine CC.of rfl ?_
  repeat refine VV.s rfl ?_
  (refine VV.c rfl ?_; refine cm_here ht h h6 hp ?_)
  refine VV.s rfl ?_
  refine VV.s rfl ?_
  refine VV.s rfl ?_
  refine VV.s rfl ?_
  refine VV.s rfl ?_
  refine VV.g58n rfl rfl h7 ?_
  refine VV.s rfl ?_
  refine VV.b (b_neT (a := 1) (b := 0) (by omega) (by omega)) ?_
  refine VV.s rfl ?_
  refine VV.s rfl ?_
  refine VV.w5817 rfl rfl ?_
  refine VV.s rfl ?_
  refine VV.g58n rfl rfl (show up τ 5817 (nI 1) 5817 = nI 1 from rfl) ?_
  refine VV.s rfl ?_
  refine VV.b (b_neT (a := 1) (b := 0) (by omega) (by omega)) ?_
  repeat refine VV.s rfl ?_
  exact VV.r rfl q
theorem cm_number0 (ht : s.tm ≤ 100) (h : TM s τ A) (h6 : τ 5816 = nI p) (h7 : τ 5817 = nI 0) (hp : p ≤ s.tm) (q1 : (pN s p).1 = true → ∀ τ', FQ τ τ' → τ' 5816 = nI (pN s p).2.1 → τ' 5817 = nI 0 → Q (some (.int (pN s p).2.2)) (HH S τ' A B)) (q0 : (pN s p).1 = false → ∀ v τ', FQ τ τ' → τ' 5816 = nI (pN s p).2.1 → τ' 5817 = nI 1 → Q (some (.int v)) (HH S τ' A B)) : CC (d + 2) M_M_number [.ref 58] (HH S τ A B) Q := by
  have t75 : ∀ (τ1 : Nat → Int32) (b : Bool) (v : Int32), Q (some (.int (if b = true then -v else v))) (HH S τ1 A B) → VV (d + 2) M_M_number 75 [some (.ref 58), some (.int (bI b)), some (.int v)] [] (HH S τ1 A B) Q := by
    intro τ1 b v q
    cases b with
    | true =>
      refine VV.s rfl ?_
      refine VV.s rfl ?_
      refine VV.b (b_eqF (a := 1) (b := 0) (by omega) (by omega)) ?_
      repeat refine VV.s rfl ?_
      exact VV.r rfl q
    | false =>
      refine VV.s rfl ?_
      refine VV.s rfl ?_
      refine VV.b (b_eqT (a := 0) (b := 0) rfl (by omega)) ?_
      repeat refine VV.s rfl ?_
      exact VV.r rfl q
  have t36 : ∀ (τ1 : Nat → Int32) (b : Bool), FQ τ τ1 → τ1 5816 = nI (pQ s p) → τ1 5817 = nI 0 → (hr s p = nI 45 ↔ b = true) → VV (d + 2) M_M_number 36 [some (.ref 58), some (.int (bI b)), none] [] (HH S τ1 A B) Q := by
    intro τ1 b f h6 h7 hb
    have hpq := pQ_le hp
    have hS : ∀ v, (if b = true then -v else v) = pS s p v := by
      intro v
      unfold pS
      by_cases z : hr s p = nI 45
      · rw [if_pos z, if_pos (hb.mp z)]
      · rw [if_neg z, if_neg (fun w => z (hb.mpr w))]
    repeat refine VV.s rfl ?_
    unfold pN at q0 q1
    (refine VV.c rfl ?_; refine cm_digit0 ht (h.fq f) h6 h7 (by omega) (fun c => ?_) (fun c => ?_))
    · have c' := hr_dg c
      rw [if_pos c] at q0 q1
      have f2 : FQ τ (up (up τ1 5817 (nI 0)) 5816 (nI (pQ s p + 1))) := f.t7.t6
      refine VV.s rfl ?_
      refine VV.s rfl ?_
      refine VV.g58n rfl rfl (show up (up τ1 5817 (nI 0)) 5816 (nI (pQ s p + 1)) 5817 = nI 0 from rfl) ?_
      refine VV.s rfl ?_
      refine VV.b (b_neF (a := 0) (b := 0) rfl (by omega)) ?_
      refine VV.s rfl ?_
      (refine VV.c rfl ?_; refine cm_here (p := pQ s p + 1) ht (h.fq f2) rfl (by omega) ?_)
      repeat refine VV.s rfl ?_
      (refine VV.c rfl ?_; refine cm_in (x := hr s (pQ s p + 1)) (lo := nI 48) (hi := nI 57) rfl rfl ?_)
      rw [show rgB (nI 48) (nI 57) (hr s (pQ s p + 1)) = dg (hr s (pQ s p + 1)) from rfl]
      cases c2 : dg (hr s (pQ s p + 1)) with
      | false =>
        rw [if_neg (by rw [c2]; exact Bool.false_ne_true)] at q0 q1
        show VV _ _ _ _ [.int (nI 0)] _ _
        refine VV.s rfl ?_
        refine VV.b (b_eqT (a := 0) (b := 0) rfl (by omega)) ?_
        exact t75 _ b _ (by rw [hS]; exact q1 rfl _ f2 rfl rfl)
      | true =>
        rw [if_pos c2] at q0 q1
        show VV _ _ _ _ [.int (nI 1)] _ _
        refine VV.s rfl ?_
        refine VV.b (b_eqF (a := 1) (b := 0) (by omega) (by omega)) ?_
        refine VV.s rfl ?_
        refine VV.s rfl ?_
        refine VV.s rfl ?_
        refine VV.s rfl ?_
        (refine VV.c rfl ?_; refine cm_digit0 (p := pQ s p + 1) ht (h.fq f2) rfl rfl (by omega) (fun _ => ?_) (fun z => by rw [c2] at z; cases z))
        refine VV.s rfl ?_
        refine VV.s rfl ?_
        exact t75 _ b _ (by rw [hS]; exact q1 rfl _ f2.t7.t6 rfl rfl)
    · rw [if_neg (by rw [c]; exact Bool.false_ne_true)] at q0 q1
      refine VV.s rfl ?_
      refine VV.s rfl ?_
      refine VV.g58n rfl rfl (show up τ1 5817 (nI 1) 5817 = nI 1 from rfl) ?_
      refine VV.s rfl ?_
      refine VV.b (b_neT (a := 1) (b := 0) (by omega) (by omega)) ?_
      exact t75 _ b _ (q0 rfl _ _ f.t7 h6 rfl)
  refine CC.of rfl ?_
  refine VV.s rfl ?_
  refine VV.g58n rfl rfl h7 ?_
  refine VV.s rfl ?_
  refine VV.b (b_neF (a := 0) (b := 0) rfl (by omega)) ?_
  refine VV.s rfl ?_
  (refine VV.c rfl ?_; refine cm_here ht h h6 (by omega) ?_)
  refine VV.s rfl ?_
  refine VV.s rfl ?_
  refine VV.i (fun c => ?_) (fun c => ?_)
  · refine VV.s rfl ?_
    refine VV.s rfl ?_
    refine VV.s rfl ?_
    refine VV.s rfl ?_
    refine VV.s rfl ?_
    refine VV.b (b_eqF (a := 1) (b := 0) (by omega) (by omega)) ?_
    refine VV.s rfl ?_
    refine VV.s rfl ?_
    refine VV.g58n rfl rfl h6 ?_
    refine VV.s rfl ?_
    refine VV.add rfl ?_
    refine VV.pf rfl rfl ?_
    exact t36 (up τ 5816 (nI (p + 1))) true FQ.refl.t6 (by unfold pQ; rw [if_pos c]; exact up_s _ _ _) h7 ⟨fun _ => rfl, fun _ => c⟩
  · have T := t36 τ false FQ.refl (by unfold pQ; rw [if_neg c]; exact h6) h7 ⟨fun z => absurd z c, fun z => by cases z⟩
    repeat (first | exact T | refine VV.add rfl ?_ | refine VV.inc rfl rfl rfl ?_ | refine VV.mul rfl ?_ | refine VV.sub rfl (by omega) ?_ | refine VV.shl1 rfl (by omega) ?_ | refine VV.shl rfl ⟨by omega, by omega⟩ ?_ | refine VV.shr rfl ⟨by omega, by omega⟩ ?_ | refine VV.and rfl ?_ | refine VV.div rfl ⟨by omega, by omega, by omega⟩ ?_ | refine VV.rem rfl ⟨by omega, by omega, by omega⟩ ?_ | refine VV.s rfl ?_  | refine VV.b (b_ltT (by omega) (by omega)) ?_ | refine VV.b (b_ltF (by omega) (by omega)) ?_ | refine VV.b (b_geT (by omega) (by omega)) ?_ | refine VV.b (b_geF (by omega) (by omega)) ?_ | refine VV.b (b_gtT (by omega) (by omega)) ?_ | refine VV.b (b_gtF (by omega) (by omega)) ?_ | refine VV.b (b_leT (by omega) (by omega)) ?_ | refine VV.b (b_leF (by omega) (by omega)) ?_ | refine VV.b (b_eqT (by omega) (by omega)) ?_ | refine VV.b (b_eqF (by omega) (by omega)) ?_ | refine VV.b (b_neT (by omega) (by omega)) ?_ | refine VV.b (b_neF (by omega) (by omega)) ?_)
theorem cm_number1 (ht : s.tm ≤ 100) (h : TM s τ A) (h6 : τ 5816 = nI p) (h7 : τ 5817 = nI 1) (hp : p ≤ 110) (q : ∀ v, Q (some (.int v)) (HH S (up τ 5817 (nI 1)) A B)) : CC (d + 2) M_M_number [.ref 58] (HH S τ A B) Q := by
  refine CC.of rfl ?_
  refine VV.s rfl ?_
  refine VV.g58n rfl rfl h7 ?_
  refine VV.s rfl ?_
  refine VV.b (b_neT (a := 1) (b := 0) (by omega) (by omega)) ?_
  refine VV.s rfl ?_
  refine VV.s rfl ?_
  refine VV.s rfl ?_
  refine VV.s rfl ?_
  refine VV.b (b_eqT (a := 0) (b := 0) rfl (by omega)) ?_
  refine VV.s rfl ?_
  (refine VV.c rfl ?_; refine cm_digit1 ht h h6 h7 hp ?_)
  refine VV.s rfl ?_
  refine VV.s rfl ?_
  refine VV.g58n rfl rfl (show up τ 5817 (nI 1) 5817 = nI 1 from rfl) ?_
  refine VV.s rfl ?_
  refine VV.b (b_neT (a := 1) (b := 0) (by omega) (by omega)) ?_
  refine VV.s rfl ?_
  refine VV.s rfl ?_
  refine VV.b (b_eqT (a := 0) (b := 0) rfl (by omega)) ?_
  repeat refine VV.s rfl ?_
  exact VV.r rfl (q _)
theorem cm_clause (ht : s.tm ≤ 100) (h : TM s τ A) (h6 : τ 5816 = nI p) (h7 : τ 5817 = nI 0) (hp : p ≤ s.tm) {m : Nat} (h22 : τ 5822 = nI m) (m12 : m < 12) (q0 : (pC s p).1 = false → ∀ τ' A', FR τ A τ' A' → τ' 5816 = nI (pC s p).2.1 → τ' 5817 = nI 1 → τ' 5822 = nI (m + 1) → Q none (HH S τ' A' B)) (q1 : (pC s p).1 = true → ∀ τ' A', FR τ A τ' A' → τ' 5816 = nI (pC s p).2.1 → τ' 5817 = nI 0 → τ' 5822 = nI (m + 1) → RQ A' m (pC s p).2.2 → LW A A' m → Q none (HH S τ' A' B)) : CC (d + 3) M_M_clause [.ref 58] (HH S τ A B) Q := by
  have t271 : ∀ (τ1 : Nat → Int32) (A1 : Nat → Nat → Int32) (x : Int32), τ1 5822 = nI m → Q none (HH S (up τ1 5822 (nI (m + 1))) A1 B) → VV (d + 3) M_M_clause 271 [some (.ref 58), some (.int x)] [] (HH S τ1 A1 B) Q := by
    intro τ1 A1 x h22 q
    refine VV.s rfl ?_
    refine VV.s rfl ?_
    refine VV.g58n rfl rfl h22 ?_
    refine VV.s rfl ?_
    refine VV.add rfl ?_
    refine VV.pf rfl rfl ?_
    exact VV.r rfl q
  have n237_1 : ∀ (x : Int32) (p1 : Nat) (τ1 : Nat → Int32) (A1 : Nat → Nat → Int32), FR τ A τ1 A1 → τ1 5816 = nI p1 → τ1 5817 = nI 1 → p1 ≤ 110 → τ1 5822 = nI m → (pC s p).1 = false → (pC s p).2.1 = p1 → VV (d + 3) M_M_clause 237 [some (.ref 58), some (.int x)] [] (HH S τ1 A1 B) Q := by
    intro x p1 τ1 A1 f g6 g7 hp1 g22 e0 e1
    refine VV.s rfl ?_
    refine VV.g58 rfl rfl ?_
    refine VV.s rfl ?_
    refine VV.g58n rfl rfl g22 ?_
    refine VV.s rfl ?_
    (refine VV.c rfl ?_; refine cm_number1 ht (h.fr f) g6 g7 hp1 (fun v => ?_))
    refine VV.is rfl rfl rfl (show m < 12 from m12) ?_
    refine VV.s rfl ?_
    exact t271 _ _ _ g22 (q0 e0 _ _ ((f.fq FQ.refl.t7).a (by decide)).t22 (by rw [e1]; exact g6) rfl (up_s _ _ _))
  have n237_0 : ∀ (k p1 : Nat) (spot : Int32) (τ1 : Nat → Int32) (A1 : Nat → Nat → Int32), k < 9 → FR τ A τ1 A1 → LW A A1 m → τ1 5816 = nI p1 → τ1 5817 = nI 0 → p1 ≤ s.tm → τ1 5822 = nI m → pC s p = pE s k p1 spot → A1 71 m = nI (kcode k) → (k = 1 → nI 10 * A1 72 m + A1 73 m = spot) → (kdig k = 1 → A1 72 m = spot) → kbare k = false → VV (d + 3) M_M_clause 237 [some (.ref 58), some (.int (nI (kcode k)))] [] (HH S τ1 A1 B) Q := by
    intro k p1 spot τ1 A1 hk f l g6 g7 hp1 g22 e r1 r2 r3 r4
    have e : pC s p = ((pN s p1).1, (pN s p1).2.1, k, spot, (pN s p1).2.2) := by
      rw [e]
      unfold pE
      rw [if_neg (by rw [r4]; exact Bool.false_ne_true)]
    rw [e] at q0 q1
    refine VV.s rfl ?_
    refine VV.g58 rfl rfl ?_
    refine VV.s rfl ?_
    refine VV.g58n rfl rfl g22 ?_
    refine VV.s rfl ?_
    (refine VV.c rfl ?_; refine cm_number0 ht (h.fr f) g6 g7 hp1 (fun c τ2 f2 e6 e7 => ?_) (fun c v τ2 f2 e6 e7 => ?_))
    · refine VV.is rfl rfl rfl (show m < 12 from m12) ?_
      refine VV.s rfl ?_
      have g2 : τ2 5822 = nI m := (f2 5822 (by omega) (by omega)).trans g22
      exact t271 _ _ _ g2 (q1 c _ _ ((f.fq f2).a (by decide)).t22 e6 e7 (up_s _ _ _) ⟨r1, r2, r3, fun _ => up_s _ _ _⟩ l.up)
    · refine VV.is rfl rfl rfl (show m < 12 from m12) ?_
      refine VV.s rfl ?_
      have g2 : τ2 5822 = nI m := (f2 5822 (by omega) (by omega)).trans g22
      exact t271 _ _ _ g2 (q0 c _ _ ((f.fq f2).a (by decide)).t22 e6 e7 (up_s _ _ _))
  have n198_1 : ∀ (x : Int32) (p1 : Nat) (τ1 : Nat → Int32) (A1 : Nat → Nat → Int32), FR τ A τ1 A1 → τ1 5816 = nI p1 → τ1 5817 = nI 1 → p1 ≤ 110 → τ1 5822 = nI m → (pC s p).1 = false → (pC s p).2.1 = p1 → VV (d + 3) M_M_clause 198 [some (.ref 58), some (.int x)] [] (HH S τ1 A1 B) Q := by
    intro x p1 τ1 A1 f g6 g7 hp1 g22 e0 e1
    refine VV.s rfl ?_
    refine VV.g58 rfl rfl ?_
    refine VV.s rfl ?_
    refine VV.g58n rfl rfl g22 ?_
    refine VV.s rfl ?_
    (refine VV.c rfl ?_; refine cm_number1 ht (h.fr f) g6 g7 hp1 (fun v => ?_))
    refine VV.is rfl rfl rfl (show m < 12 from m12) ?_
    refine VV.s rfl ?_
    exact t271 _ _ _ g22 (q0 e0 _ _ ((f.fq FQ.refl.t7).a (by decide)).t22 (by rw [e1]; exact g6) rfl (up_s _ _ _))
  have n198_0 : ∀ (k p1 : Nat) (spot : Int32) (τ1 : Nat → Int32) (A1 : Nat → Nat → Int32), k < 9 → FR τ A τ1 A1 → LW A A1 m → τ1 5816 = nI p1 → τ1 5817 = nI 0 → p1 ≤ s.tm → τ1 5822 = nI m → pC s p = pE s k p1 spot → A1 71 m = nI (kcode k) → (k = 1 → nI 10 * A1 72 m + A1 73 m = spot) → (kdig k = 1 → A1 72 m = spot) → kbare k = false → VV (d + 3) M_M_clause 198 [some (.ref 58), some (.int (nI (kcode k)))] [] (HH S τ1 A1 B) Q := by
    intro k p1 spot τ1 A1 hk f l g6 g7 hp1 g22 e r1 r2 r3 r4
    have e : pC s p = ((pN s p1).1, (pN s p1).2.1, k, spot, (pN s p1).2.2) := by
      rw [e]
      unfold pE
      rw [if_neg (by rw [r4]; exact Bool.false_ne_true)]
    rw [e] at q0 q1
    refine VV.s rfl ?_
    refine VV.g58 rfl rfl ?_
    refine VV.s rfl ?_
    refine VV.g58n rfl rfl g22 ?_
    refine VV.s rfl ?_
    (refine VV.c rfl ?_; refine cm_number0 ht (h.fr f) g6 g7 hp1 (fun c τ2 f2 e6 e7 => ?_) (fun c v τ2 f2 e6 e7 => ?_))
    · refine VV.is rfl rfl rfl (show m < 12 from m12) ?_
      refine VV.s rfl ?_
      have g2 : τ2 5822 = nI m := (f2 5822 (by omega) (by omega)).trans g22
      exact t271 _ _ _ g2 (q1 c _ _ ((f.fq f2).a (by decide)).t22 e6 e7 (up_s _ _ _) ⟨r1, r2, r3, fun _ => up_s _ _ _⟩ l.up)
    · refine VV.is rfl rfl rfl (show m < 12 from m12) ?_
      refine VV.s rfl ?_
      have g2 : τ2 5822 = nI m := (f2 5822 (by omega) (by omega)).trans g22
      exact t271 _ _ _ g2 (q0 c _ _ ((f.fq f2).a (by decide)).t22 e6 e7 (up_s _ _ _))
  refine CC.of rfl ?_
  repeat refine VV.s rfl ?_
  (refine VV.c rfl ?_; refine cm_here ht h h6 (by omega) ?_)
  refine VV.s rfl ?_
  refine VV.s rfl ?_
  refine VV.g58 rfl rfl ?_
  refine VV.s rfl ?_
  refine VV.g58n rfl rfl h22 ?_
  refine VV.s rfl ?_
  refine VV.is rfl rfl rfl (show m < 12 from m12) ?_
  have fA : FR τ A τ (up A 71 (up (A 71) m (hr s p))) := FR.refl.a (by decide)
  have lA : LW A (up A 71 (up (A 71) m (hr s p))) m := LW.refl.up
  refine VV.s rfl ?_
  refine VV.s rfl ?_
  by_cases c : kOf (hr s p) = 9
  · have e : pC s p = (false, p, 0, 0, 0) := by
      unfold pC
      rw [if_pos c]
    rw [e] at q0
    obtain ⟨n1, n2, n3, n4, n5, n6, n7, n8, n9⟩ := kOf_n c
    have L : VV (d + 3) M_M_clause 266 [some (.ref 58), some (.int (hr s p))] [] (HH S τ (up A 71 (up (A 71) m (hr s p))) B) Q := by
      refine VV.s rfl ?_
      refine VV.s rfl ?_
      refine VV.w5817 rfl rfl ?_
      exact t271 _ _ _ h22 (q0 rfl _ _ (fA.fq FQ.refl.t7).t22 h6 rfl (up_s _ _ _))
    repeat (refine VV.sw (fun e => by first | exact absurd e n1 | exact absurd e n2 | exact absurd e n3 | exact absurd e n4 | exact absurd e n5 | exact absurd e n6 | exact absurd e n7 | exact absurd e n8 | exact absurd e n9 | exact L) (fun _ => ?_))
    exact VV.sw0 L
  · obtain ⟨hk, ek⟩ := kOf_k c
    have e : pC s p = pK s (kOf (hr s p)) p := by
      unfold pC
      rw [if_neg c]
    have p0 : p < s.tm := hr_e ek (kc_ne hk)
    rw [ek] at fA lA ⊢
    generalize kOf (hr s p) = k at hk e fA lA ⊢
    have f6 : FQ τ (up τ 5816 (nI (p + 1))) := FQ.refl.t6
    have hA : TM s (up τ 5816 (nI (p + 1))) (up A 71 (up (A 71) m (nI (kcode k)))) := (h.fr fA).fq f6
    have one : kdig k = 1 → kbare k = false → VV (d + 3) M_M_clause 214 [some (.ref 58), some (.int (nI (kcode k)))] [] (HH S τ (up A 71 (up (A 71) m (nI (kcode k)))) B) Q := by
      intro z zb
      have e1 : pC s p = if dg (hr s (p + 1)) = true then pE s k (p + 2) (dv (hr s (p + 1))) else (false, p + 1, 0, 0, 0) := by
        rw [e]
        unfold pK
        rw [if_neg (by rw [z]; decide), if_pos z]
      refine VV.s rfl ?_
      refine VV.s rfl ?_
      refine VV.g58n rfl rfl h6 ?_
      refine VV.s rfl ?_
      refine VV.add rfl ?_
      refine VV.pf rfl rfl ?_
      refine VV.s rfl ?_
      refine VV.g58 rfl rfl ?_
      refine VV.s rfl ?_
      refine VV.g58n rfl rfl (show up τ 5816 (nI (p + 1)) 5822 = nI m from h22) ?_
      refine VV.s rfl ?_
      (refine VV.c rfl ?_; refine cm_digit0 (p := p + 1) ht hA rfl h7 (by omega) (fun c1 => ?_) (fun c1 => ?_))
      · rw [if_pos c1] at e1
        refine VV.is rfl rfl rfl (show m < 12 from m12) ?_
        have a2 : up (up A 71 (up (A 71) m (nI (kcode k)))) 72 (up (A 72) m (dv (hr s (p + 1)))) 72 m = dv (hr s (p + 1)) := up_s _ _ _
        exact n237_0 k (p + 2) _ _ _ hk ((fA.fq (f6.t7.t6)).a (by decide)) lA.up rfl rfl (hr_dg c1) h22 e1 (up_s _ _ _) (fun w => absurd z (by rw [w]; decide)) (fun _ => a2) zb
      · rw [if_neg (by rw [c1]; exact Bool.false_ne_true)] at e1
        refine VV.is rfl rfl rfl (show m < 12 from m12) ?_
        exact n237_1 _ (p + 1) _ _ ((fA.fq (f6.t7)).a (by decide)) rfl rfl (by omega) h22 (by rw [e1])  (by rw [e1])
    have none_ : kdig k = 0 → kbare k = true → VV (d + 3) M_M_clause 253 [some (.ref 58), some (.int (nI (kcode k)))] [] (HH S τ (up A 71 (up (A 71) m (nI (kcode k)))) B) Q := by
      intro z zb
      have e1 : pC s p = (true, p + 1, k, nI 0, nI 0) := by
        rw [e]
        unfold pK
        rw [if_pos z]
        unfold pE
        rw [if_pos zb]
      rw [e1] at q1
      refine VV.s rfl ?_
      refine VV.s rfl ?_
      refine VV.g58n rfl rfl h6 ?_
      refine VV.s rfl ?_
      refine VV.add rfl ?_
      refine VV.pf rfl rfl ?_
      refine VV.s rfl ?_
      exact t271 _ _ _ h22 (q1 rfl _ _ (fA.fq f6).t22 rfl h7 (up_s _ _ _) ⟨up_s _ _ _, fun w => absurd z (by rw [show k = 1 from w]; decide), fun w => absurd (z.symm.trans w) (by decide), fun w => absurd (zb.symm.trans w) (by decide)⟩ lA)
    rcases kk9 hk with rfl | rfl | rfl | rfl | rfl | rfl | rfl | rfl | rfl
    · repeat (refine VV.sw (fun e => absurd e (by decide)) (fun _ => ?_))
      refine VV.sw (fun _ => ?_) (fun e => absurd rfl e)
      have e1 : pC s p = if dg (hr s (p + 1)) = true then (true, p + 2, 0, dv (hr s (p + 1)), nI 0) else (false, p + 1, 0, 0, 0) := by
        rw [e]
        rfl
      refine VV.s rfl ?_
      refine VV.s rfl ?_
      refine VV.g58n rfl rfl h6 ?_
      refine VV.s rfl ?_
      refine VV.add rfl ?_
      refine VV.pf rfl rfl ?_
      refine VV.s rfl ?_
      refine VV.g58 rfl rfl ?_
      refine VV.s rfl ?_
      refine VV.g58n rfl rfl (show up τ 5816 (nI (p + 1)) 5822 = nI m from h22) ?_
      refine VV.s rfl ?_
      (refine VV.c rfl ?_; refine cm_digit0 (p := p + 1) ht hA rfl h7 (by omega) (fun c1 => ?_) (fun c1 => ?_))
      · rw [if_pos c1] at e1
        rw [e1] at q1
        refine VV.is rfl rfl rfl (show m < 12 from m12) ?_
        refine VV.s rfl ?_
        exact t271 _ _ _ h22 (q1 rfl _ _ ((fA.fq (f6.t7.t6)).a (by decide)).t22 rfl rfl (up_s _ _ _) ⟨up_s _ _ _, fun w => absurd w (show ¬ ((0 : Nat) = 1) by decide), fun _ => up_s _ _ _, fun w => absurd w (show ¬ (kbare 0 = false) by decide)⟩ lA.up)
      · rw [if_neg (by rw [c1]; exact Bool.false_ne_true)] at e1
        rw [e1] at q0
        refine VV.is rfl rfl rfl (show m < 12 from m12) ?_
        refine VV.s rfl ?_
        exact t271 _ _ _ h22 (q0 rfl _ _ ((fA.fq (f6.t7)).a (by decide)).t22 rfl rfl (up_s _ _ _))
    · refine VV.sw (fun _ => ?_) (fun e => absurd rfl e)
      have e1 : pC s p = if dg (hr s (p + 1)) = true then (if dg (hr s (p + 2)) = true then pE s 1 (p + 3) (nI 10 * dv (hr s (p + 1)) + dv (hr s (p + 2))) else (false, p + 2, 0, 0, 0)) else (false, p + 1, 0, 0, 0) := by
        rw [e]
        rfl
      refine VV.s rfl ?_
      refine VV.s rfl ?_
      refine VV.g58n rfl rfl h6 ?_
      refine VV.s rfl ?_
      refine VV.add rfl ?_
      refine VV.pf rfl rfl ?_
      refine VV.s rfl ?_
      refine VV.g58 rfl rfl ?_
      refine VV.s rfl ?_
      refine VV.g58n rfl rfl (show up τ 5816 (nI (p + 1)) 5822 = nI m from h22) ?_
      refine VV.s rfl ?_
      (refine VV.c rfl ?_; refine cm_digit0 (p := p + 1) ht hA rfl h7 (by omega) (fun c1 => ?_) (fun c1 => ?_))
      · rw [if_pos c1] at e1
        have p1 := hr_dg c1
        refine VV.is rfl rfl rfl (show m < 12 from m12) ?_
        refine VV.s rfl ?_
        refine VV.g58 rfl rfl ?_
        refine VV.s rfl ?_
        refine VV.g58n rfl rfl (show up (up (up τ 5816 (nI (p + 1))) 5817 (nI 0)) 5816 (nI (p + 1 + 1)) 5822 = nI m from h22) ?_
        refine VV.s rfl ?_
        have f2 := (fA.fq ((f6.t7 (x := nI 0)).t6 (x := nI (p + 1 + 1)))).a (a := 72) (x := up (A 72) m (dv (hr s (p + 1)))) (by decide)
        (refine VV.c rfl ?_; refine cm_digit0 (p := p + 2) ht (h.fr f2) rfl rfl (by omega) (fun c2 => ?_) (fun c2 => ?_))
        · rw [if_pos c2] at e1
          refine VV.is rfl rfl rfl (show m < 12 from m12) ?_
          exact n198_0 1 (p + 3) _ _ _ hk ((f2.fq (FQ.refl.t7.t6)).a (by decide)) lA.up.up rfl rfl (hr_dg c2) h22 e1 (up_s _ _ _) (fun _ => congr (congrArg HAdd.hAdd (congrArg (fun x => nI 10 * x) (up_s _ _ _))) (up_s _ _ _)) (fun w => absurd w (by decide)) rfl
        · rw [if_neg (by rw [c2]; exact Bool.false_ne_true)] at e1
          refine VV.is rfl rfl rfl (show m < 12 from m12) ?_
          exact n198_1 _ (p + 2) _ _ ((f2.fq (FQ.refl.t7)).a (by decide)) rfl rfl (by omega) h22 (by rw [e1]) (by rw [e1])
      · rw [if_neg (by rw [c1]; exact Bool.false_ne_true)] at e1
        refine VV.is rfl rfl rfl (show m < 12 from m12) ?_
        refine VV.s rfl ?_
        refine VV.g58 rfl rfl ?_
        refine VV.s rfl ?_
        refine VV.g58n rfl rfl (show up (up τ 5816 (nI (p + 1))) 5817 (nI 1) 5822 = nI m from h22) ?_
        refine VV.s rfl ?_
        have f2 := (fA.fq (f6.t7 (x := nI 1))).a (a := 72) (x := up (A 72) m (dv (hr s (p + 1)))) (by decide)
        (refine VV.c rfl ?_; refine cm_digit1 (p := p + 1) ht (h.fr f2) rfl rfl (by omega) ?_)
        refine VV.is rfl rfl rfl (show m < 12 from m12) ?_
        exact n198_1 _ (p + 1) _ _ ((f2.fq (FQ.refl.t7)).a (by decide)) rfl rfl (by omega) h22 (by rw [e1]) (by rw [e1])
    · repeat (refine VV.sw (fun e => absurd e (by decide)) (fun _ => ?_))
      refine VV.sw (fun _ => ?_) (fun e => absurd rfl e)
      exact one (by decide) (by decide)
    · repeat (refine VV.sw (fun e => absurd e (by decide)) (fun _ => ?_))
      refine VV.sw (fun _ => ?_) (fun e => absurd rfl e)
      exact one (by decide) (by decide)
    · repeat (refine VV.sw (fun e => absurd e (by decide)) (fun _ => ?_))
      refine VV.sw (fun _ => ?_) (fun e => absurd rfl e)
      exact one (by decide) (by decide)
    · repeat (refine VV.sw (fun e => absurd e (by decide)) (fun _ => ?_))
      refine VV.sw (fun _ => ?_) (fun e => absurd rfl e)
      exact none_ (by decide) (by decide)
    · repeat (refine VV.sw (fun e => absurd e (by decide)) (fun _ => ?_))
      refine VV.sw (fun _ => ?_) (fun e => absurd rfl e)
      exact none_ (by decide) (by decide)
    · repeat (refine VV.sw (fun e => absurd e (by decide)) (fun _ => ?_))
      refine VV.sw (fun _ => ?_) (fun e => absurd rfl e)
      exact none_ (by decide) (by decide)
    · repeat (refine VV.sw (fun e => absurd e (by decide)) (fun _ => ?_))
      refine VV.sw (fun _ => ?_) (fun e => absurd rfl e)
      exact one (by decide) (by decide)
theorem cm_ff (ht : s.tm ≤ 100) {L2 : List (Option Value)} (fin0 : ∀ f τ' A', FR τ A τ' A' → (pT s 12 0).1 = some f → Q (some (.int (-(nI 10) - nI f))) (HH S (up τ' 5815 (nI 0)) A' B)) (fin1 : ∀ τ' A', FR τ A τ' A' → (pT s 12 0).1 = none → τ' 5822 = nI (pT s 12 0).2.length → (∀ j x, (pT s 12 0).2[j]? = some x → RQ A' j x) → VV (d + 4) M_M_read 108 [some (.ref 58), none, none] [] (HH S (up τ' 5815 (nI 0)) A' B) Q) (h : TM s τ A) : CC (d + 4) M_M_read [.ref 58] (HH S τ A B) Q := by
  have w61 : ∀ (τ1 : Nat → Int32) (A1 : Nat → Nat → Int32) (f : Nat), TM s τ1 A1 → τ1 5816 = nI f → f ≤ s.tm → (τ1 5817 = nI 1 ∨ (τ1 5817 = nI 0 ∧ f < s.tm)) → Q (some (.int (-(nI 10) - nI f))) (HH S (up (up τ1 5817 (nI 1)) 5815 (nI 0)) A1 B) → VV (d + 4) M_M_read 61 [some (.ref 58), none, none] [] (HH S τ1 A1 B) Q := by
    intro τ1 A1 f h g6 hf g7 q
    have L : VV (d + 4) M_M_read 85 [some (.ref 58), none, none] [.int (nI 1), .ref 58] (HH S τ1 A1 B) Q := by
      refine VV.w5817 rfl rfl ?_
      refine VV.s rfl ?_
      refine VV.s rfl ?_
      refine VV.pf rfl rfl ?_
      refine VV.s rfl ?_
      refine VV.g58n rfl rfl (show up (up τ1 5817 (nI 1)) 5815 (nI 0) 5817 = nI 1 from rfl) ?_
      refine VV.s rfl ?_
      refine VV.b (b_eqF (a := 1) (b := 0) (by omega) (by omega)) ?_
      refine VV.s rfl ?_
      refine VV.s rfl ?_
      refine VV.g58n rfl rfl (show up (up τ1 5817 (nI 1)) 5815 (nI 0) 5816 = nI f from g6) ?_
      refine VV.s rfl ?_
      exact VV.r rfl q
    refine VV.s rfl ?_
    refine VV.s rfl ?_
    rcases g7 with g7 | ⟨g7, hlt⟩
    · refine VV.g58n rfl rfl g7 ?_
      refine VV.s rfl ?_
      refine VV.b (b_neT (a := 1) (b := 0) (by omega) (by omega)) ?_
      repeat (first | exact L | refine VV.s rfl ?_)
    · refine VV.g58n rfl rfl g7 ?_
      refine VV.s rfl ?_
      refine VV.b (b_neF (a := 0) (b := 0) rfl (by omega)) ?_
      refine VV.s rfl ?_
      refine VV.g58n rfl rfl g6 ?_
      refine VV.s rfl ?_
      refine VV.g58n rfl rfl h.1 ?_
      refine VV.s rfl ?_
      refine VV.b (b_geF (by omega) (by omega)) ?_
      repeat (first | exact L | refine VV.s rfl ?_)
  have k61 : ∀ (τ1 : Nat → Int32) (A1 : Nat → Nat → Int32), TM s τ1 A1 → τ1 5816 = nI s.tm → τ1 5817 = nI 0 → VV (d + 4) M_M_read 108 [some (.ref 58), none, none] [] (HH S (up (up τ1 5817 (nI 0)) 5815 (nI 0)) A1 B) Q → VV (d + 4) M_M_read 61 [some (.ref 58), none, none] [] (HH S τ1 A1 B) Q := by
    intro τ1 A1 h g6 g7 q
    refine VV.s rfl ?_
    refine VV.s rfl ?_
    refine VV.g58n rfl rfl g7 ?_
    refine VV.s rfl ?_
    refine VV.b (b_neF (a := 0) (b := 0) rfl (by omega)) ?_
    refine VV.s rfl ?_
    refine VV.g58n rfl rfl g6 ?_
    refine VV.s rfl ?_
    refine VV.g58n rfl rfl h.1 ?_
    refine VV.s rfl ?_
    refine VV.b (b_geT (by omega) (by omega)) ?_
    refine VV.s rfl ?_
    refine VV.w5817 rfl rfl ?_
    refine VV.s rfl ?_
    refine VV.s rfl ?_
    refine VV.pf rfl rfl ?_
    refine VV.s rfl ?_
    refine VV.g58n rfl rfl (show up (up τ1 5817 (nI 0)) 5815 (nI 0) 5817 = nI 0 from rfl) ?_
    refine VV.s rfl ?_
    refine VV.b (b_eqT (a := 0) (b := 0) rfl (by omega)) ?_
    exact q
  have n19 : ∀ (r p m : Nat) (τ1 : Nat → Int32) (A1 : Nat → Nat → Int32), m + (r + 1) = 12 → p ≤ s.tm → TM s τ1 A1 → τ1 5816 = nI (pC s p).2.1 → τ1 5822 = nI (m + 1) → (((pC s p).1 = false ∧ τ1 5817 = nI 1) ∨ ((pC s p).1 = true ∧ τ1 5817 = nI 0 ∧ RQ A1 m (pC s p).2.2)) → (∀ f τ' A', FR τ1 A1 τ' A' → (pT s (r + 1) p).1 = some f → Q (some (.int (-(nI 10) - nI f))) (HH S (up τ' 5815 (nI 0)) A' B)) → (∀ τ' A', FR τ1 A1 τ' A' → (pT s (r + 1) p).1 = none → τ' 5822 = nI (m + (pT s (r + 1) p).2.length) → (∀ j x, (pT s (r + 1) p).2[j]? = some x → RQ A' (m + j) x) → LW A1 A' m → VV (d + 4) M_M_read 108 [some (.ref 58), none, none] [] (HH S (up τ' 5815 (nI 0)) A' B) Q) → VV (d + 4) M_M_read 19 [some (.ref 58), none, none] [] (HH S τ1 A1 B) Q := by
    intro r
    induction r with
    | zero =>
      intro p m τ1 A1 hm hp h g6 g22 g7 q0 q1
      have le := pC_le hp
      rw [pT] at q0 q1
      refine VV.s rfl ?_
      rcases g7 with ⟨c1, g7⟩ | ⟨c1, g7, rq⟩
      · rw [if_neg (by rw [c1]; exact Bool.false_ne_true)] at q0
        refine VV.g58n rfl rfl g7 ?_
        refine VV.s rfl ?_
        refine VV.b (b_neT (a := 1) (b := 0) (by omega) (by omega)) ?_
        exact w61 _ _ _ h g6 le (Or.inl g7) (q0 _ _ _ (FR.refl.fq FQ.refl.t7) rfl)
      · rw [if_pos c1] at q0 q1
        refine VV.g58n rfl rfl g7 ?_
        refine VV.s rfl ?_
        refine VV.b (b_neF (a := 0) (b := 0) rfl (by omega)) ?_
        refine VV.s rfl ?_
        (refine VV.c rfl ?_; refine cm_here ht h g6 (by omega) ?_)
        refine VV.s rfl ?_
        refine VV.s rfl ?_
        by_cases c2 : (pC s p).2.1 = s.tm
        · rw [if_pos c2] at q1
          have T := k61 τ1 A1 h (g6.trans (by rw [c2])) g7 (q1 _ _ (FR.refl.fq FQ.refl.t7) rfl g22 (fun j x e => by
            cases j with
            | zero => cases e; exact rq
            | succ j => cases e) LW.refl)
          refine VV.i (fun z => absurd (hr_e z (by decide)) (by omega)) (fun _ => T)
        · rw [if_neg c2, if_pos (Or.inl rfl)] at q0
          have T := w61 τ1 A1 _ h g6 le (Or.inr ⟨g7, by omega⟩) (q0 _ _ _ (FR.refl.fq FQ.refl.t7) rfl)
          refine VV.i (fun _ => ?_) (fun _ => T)
          refine VV.s rfl ?_
          refine VV.g58n rfl rfl g22 ?_
          refine VV.s rfl ?_
          refine VV.s rfl ?_
          refine VV.b (b_geT (by omega) (by omega)) ?_
          exact T
    | succ r ih =>
      intro p m τ1 A1 hm hp h g6 g22 g7 q0 q1
      have le := pC_le hp
      rw [pT] at q0 q1
      refine VV.s rfl ?_
      rcases g7 with ⟨c1, g7⟩ | ⟨c1, g7, rq⟩
      · rw [if_neg (by rw [c1]; exact Bool.false_ne_true)] at q0
        refine VV.g58n rfl rfl g7 ?_
        refine VV.s rfl ?_
        refine VV.b (b_neT (a := 1) (b := 0) (by omega) (by omega)) ?_
        exact w61 _ _ _ h g6 le (Or.inl g7) (q0 _ _ _ (FR.refl.fq FQ.refl.t7) rfl)
      · rw [if_pos c1] at q0 q1
        refine VV.g58n rfl rfl g7 ?_
        refine VV.s rfl ?_
        refine VV.b (b_neF (a := 0) (b := 0) rfl (by omega)) ?_
        refine VV.s rfl ?_
        (refine VV.c rfl ?_; refine cm_here ht h g6 (by omega) ?_)
        refine VV.s rfl ?_
        refine VV.s rfl ?_
        by_cases c2 : (pC s p).2.1 = s.tm
        · rw [if_pos c2] at q1
          have T := k61 τ1 A1 h (g6.trans (by rw [c2])) g7 (q1 _ _ (FR.refl.fq FQ.refl.t7) rfl g22 (fun j x e => by
            cases j with
            | zero => cases e; exact rq
            | succ j => cases e) LW.refl)
          refine VV.i (fun z => absurd (hr_e z (by decide)) (by omega)) (fun _ => T)
        · rw [if_neg c2] at q0 q1
          refine VV.i (fun c3 => ?_) (fun c3 => ?_)
          · rw [if_neg (fun z => z.elim (fun w => absurd w (Nat.succ_ne_zero r)) (fun w => w c3))] at q0 q1
            have p1 : (pC s p).2.1 < s.tm := hr_e c3 (by decide)
            refine VV.s rfl ?_
            refine VV.g58n rfl rfl g22 ?_
            refine VV.s rfl ?_
            refine VV.s rfl ?_
            refine VV.b (b_geF (by omega) (by omega)) ?_
            refine VV.s rfl ?_
            refine VV.s rfl ?_
            refine VV.g58n rfl rfl g6 ?_
            refine VV.s rfl ?_
            refine VV.add rfl ?_
            refine VV.pf rfl rfl ?_
            refine VV.s rfl ?_
            have f6 : FR τ1 A1 (up τ1 5816 (nI ((pC s p).2.1 + 1))) A1 := FR.refl.fq FQ.refl.t6
            (refine VV.c rfl ?_; refine cm_clause (p := (pC s p).2.1 + 1) (m := m + 1) ht (h.fr f6) rfl g7 p1 g22 (by omega) (fun e τ' A' f e6 e7 e22 => ?_) (fun e τ' A' f e6 e7 e22 rq2 lw => ?_))
            · refine VV.s rfl ?_
              exact ih ((pC s p).2.1 + 1) (m + 1) τ' A' (by omega) p1 (h.fr (f6.trans f)) e6 e22 (Or.inl ⟨e, e7⟩) (fun g τ2 A2 f2 e2 => q0 g τ2 A2 ((f6.trans f).trans f2) e2) (fun τ2 A2 f2 e2 _ _ _ => by
                rw [pT, if_neg (by rw [e]; exact Bool.false_ne_true)] at e2
                cases e2)
            · refine VV.s rfl ?_
              exact ih ((pC s p).2.1 + 1) (m + 1) τ' A' (by omega) p1 (h.fr (f6.trans f)) e6 e22 (Or.inr ⟨e, e7, rq2⟩) (fun g τ2 A2 f2 e2 => q0 g τ2 A2 ((f6.trans f).trans f2) e2) (fun τ2 A2 f2 e2 e22 rows lw2 => q1 τ2 A2 ((f6.trans f).trans f2) e2 (by rw [e22, List.length_cons]; congr 1; omega) (fun j x ej => by
                cases j with
                | zero => cases ej; exact (rq.lw lw (by omega)).lw lw2 (by omega)
                | succ j =>
                  have := rows j x ej
                  rw [show m + 1 + j = m + (j + 1) by omega] at this
                  exact this) (fun b k hk => (lw2 b k (by omega)).trans (lw b k (by omega))))
          · rw [if_pos (Or.inr c3)] at q0
            exact w61 τ1 A1 _ h g6 le (Or.inr ⟨g7, by omega⟩) (q0 _ _ _ (FR.refl.fq FQ.refl.t7) rfl)
  refine CC.of rfl ?_
  refine VV.s rfl ?_
  refine VV.s rfl ?_
  refine VV.pf rfl rfl ?_
  refine VV.s rfl ?_
  refine VV.s rfl ?_
  refine VV.w5817 rfl rfl ?_
  refine VV.s rfl ?_
  refine VV.s rfl ?_
  refine VV.pf rfl rfl ?_
  refine VV.s rfl ?_
  have f0 : FR τ A (up (up (up τ 5816 (nI 0)) 5817 (nI 0)) 5822 (nI 0)) A := (FR.refl.fq FQ.refl.t6.t7).t22
  (refine VV.c rfl ?_; refine cm_clause (p := 0) (m := 0) ht (h.fr f0) rfl rfl (Nat.zero_le _) rfl (by omega) (fun e τ' A' f e6 e7 e22 => ?_) (fun e τ' A' f e6 e7 e22 rq lw => ?_))
  · exact n19 11 0 0 τ' A' rfl (Nat.zero_le _) (h.fr (f0.trans f)) e6 e22 (Or.inl ⟨e, e7⟩) (fun g τ2 A2 f2 e2 => fin0 g τ2 A2 ((f0.trans f).trans f2) e2) (fun τ2 A2 f2 e2 _ _ _ => by
      rw [pT, if_neg (by rw [e]; exact Bool.false_ne_true)] at e2
      cases e2)
  · exact n19 11 0 0 τ' A' rfl (Nat.zero_le _) (h.fr (f0.trans f)) e6 e22 (Or.inr ⟨e, e7, rq⟩) (fun g τ2 A2 f2 e2 => fin0 g τ2 A2 ((f0.trans f).trans f2) e2) (fun τ2 A2 f2 e2 e22 rows _ => fin1 τ2 A2 ((f0.trans f).trans f2) e2 (by rw [e22, Nat.zero_add]) (fun j x ej => by
      have := rows j x ej
      rw [Nat.zero_add] at this
      exact this))
end TXM
section MR2
variable {d : Nat}
theorem cm_done (S : Cl) (τ : Nat → Int32) (A : Nat → Nat → Int32) (B : Nat → Nat → Int64) {s : St} (i : IV s) {x : Rw} {k : Nat} (hk : x.1 < 9) (k12 : k < 12) (rq : RQ A k x) {Q : Option Value → Hp → Prop} (h : RM s τ A B) (q : ∀ τ' A' B', RM (oDo x s).2 τ' A' B' → FK τ A B τ' A' B' → Q (some (.int (bI (!decide ((oDo x s).1 < nI 0))))) (HH S τ' A' B')) : CC (d + 6) M_M_isDone [.ref 58, .int (nI k)] (HH S τ A B) Q := by
  obtain ⟨w, u, v⟩ := x
  obtain ⟨r1, r2, r3, r4⟩ := rq
  have hk : w < 9 := hk
  refine CC.of rfl ?_
  refine VV.s rfl ?_
  refine VV.g58 rfl rfl ?_
  refine VV.s rfl ?_
  refine VV.ia rfl rfl rfl (show k < 12 from k12) ?_
  rw [r1]
  show VV _ _ _ _ [.int (nI (kcode w))] _ _
  refine VV.s rfl ?_
  rcases kk9 hk with rfl | rfl | rfl | rfl | rfl | rfl | rfl | rfl | rfl
  · repeat (refine VV.sw (fun e => absurd e (by decide)) (fun _ => ?_))
    refine VV.sw (fun _ => ?_) (fun e => absurd rfl e)
    refine VV.s rfl ?_
    refine VV.s rfl ?_
    refine VV.g58 rfl rfl ?_
    refine VV.s rfl ?_
    refine VV.ia rfl rfl rfl (show k < 12 from k12) ?_
    rw [show A 72 k = u from r3 rfl]
    refine VV.c rfl (l_size i S τ A B _ h (fun τ' A' B' h' f => ?_))
    have q := q τ' A' B' h' f
    refine VV.s rfl ?_
    refine VV.i (fun c => ?_) (fun c => ?_)
    · rw [decide_eq_true (show (oDo (0, u, v) s).1 < nI 0 from c)] at q
      repeat refine VV.s rfl ?_
      exact VV.r rfl q
    · rw [decide_eq_false (show ¬ (oDo (0, u, v) s).1 < nI 0 from c)] at q
      repeat refine VV.s rfl ?_
      exact VV.r rfl q
  · refine VV.sw (fun _ => ?_) (fun e => absurd rfl e)
    refine VV.s rfl ?_
    refine VV.s rfl ?_
    refine VV.s rfl ?_
    refine VV.g58 rfl rfl ?_
    refine VV.s rfl ?_
    refine VV.ia rfl rfl rfl (show k < 12 from k12) ?_
    refine VV.s rfl ?_
    refine VV.s rfl ?_
    refine VV.g58 rfl rfl ?_
    refine VV.s rfl ?_
    refine VV.ia rfl rfl rfl (show k < 12 from k12) ?_
    refine VV.s rfl ?_
    rw [show nI 10 * A 72 k + A 73 k = u from r2 rfl]
    refine VV.s rfl ?_
    refine VV.g58 rfl rfl ?_
    refine VV.s rfl ?_
    refine VV.ia rfl rfl rfl (show k < 12 from k12) ?_
    rw [show A 74 k = v from r4 rfl]
    refine VV.c rfl (l_set i S τ A B _ h (fun τ' A' B' h' f => ?_))
    have q := q τ' A' B' h' f
    refine VV.s rfl ?_
    refine VV.i (fun c => ?_) (fun c => ?_)
    · rw [decide_eq_true (show (oDo (1, u, v) s).1 < nI 0 from c)] at q
      repeat refine VV.s rfl ?_
      exact VV.r rfl q
    · rw [decide_eq_false (show ¬ (oDo (1, u, v) s).1 < nI 0 from c)] at q
      repeat refine VV.s rfl ?_
      exact VV.r rfl q
  · repeat (refine VV.sw (fun e => absurd e (by decide)) (fun _ => ?_))
    refine VV.sw (fun _ => ?_) (fun e => absurd rfl e)
    refine VV.s rfl ?_
    refine VV.s rfl ?_
    refine VV.s rfl ?_
    refine VV.g58 rfl rfl ?_
    refine VV.s rfl ?_
    refine VV.ia rfl rfl rfl (show k < 12 from k12) ?_
    rw [show A 72 k = u from r3 rfl]
    refine VV.s rfl ?_
    refine VV.g58 rfl rfl ?_
    refine VV.s rfl ?_
    refine VV.ia rfl rfl rfl (show k < 12 from k12) ?_
    rw [show A 74 k = v from r4 rfl]
    refine VV.c rfl (l_chip i S τ A B _ h (fun τ' A' B' h' f => ?_))
    have q := q τ' A' B' h' f
    refine VV.s rfl ?_
    refine VV.i (fun c => ?_) (fun c => ?_)
    · rw [decide_eq_true (show (oDo (2, u, v) s).1 < nI 0 from c)] at q
      repeat refine VV.s rfl ?_
      exact VV.r rfl q
    · rw [decide_eq_false (show ¬ (oDo (2, u, v) s).1 < nI 0 from c)] at q
      repeat refine VV.s rfl ?_
      exact VV.r rfl q
  · repeat (refine VV.sw (fun e => absurd e (by decide)) (fun _ => ?_))
    refine VV.sw (fun _ => ?_) (fun e => absurd rfl e)
    refine VV.s rfl ?_
    refine VV.s rfl ?_
    refine VV.s rfl ?_
    refine VV.g58 rfl rfl ?_
    refine VV.s rfl ?_
    refine VV.ia rfl rfl rfl (show k < 12 from k12) ?_
    rw [show A 72 k = u from r3 rfl]
    refine VV.s rfl ?_
    refine VV.g58 rfl rfl ?_
    refine VV.s rfl ?_
    refine VV.ia rfl rfl rfl (show k < 12 from k12) ?_
    rw [show A 74 k = v from r4 rfl]
    refine VV.c rfl (l_chip i S τ A B _ h (fun τ' A' B' h' f => ?_))
    have q := q τ' A' B' h' f
    refine VV.s rfl ?_
    refine VV.i (fun c => ?_) (fun c => ?_)
    · rw [decide_eq_true (show (oDo (3, u, v) s).1 < nI 0 from c)] at q
      repeat refine VV.s rfl ?_
      exact VV.r rfl q
    · rw [decide_eq_false (show ¬ (oDo (3, u, v) s).1 < nI 0 from c)] at q
      repeat refine VV.s rfl ?_
      exact VV.r rfl q
  · repeat (refine VV.sw (fun e => absurd e (by decide)) (fun _ => ?_))
    refine VV.sw (fun _ => ?_) (fun e => absurd rfl e)
    refine VV.s rfl ?_
    refine VV.s rfl ?_
    refine VV.s rfl ?_
    refine VV.g58 rfl rfl ?_
    refine VV.s rfl ?_
    refine VV.ia rfl rfl rfl (show k < 12 from k12) ?_
    rw [show A 72 k = u from r3 rfl]
    refine VV.s rfl ?_
    refine VV.g58 rfl rfl ?_
    refine VV.s rfl ?_
    refine VV.ia rfl rfl rfl (show k < 12 from k12) ?_
    rw [show A 74 k = v from r4 rfl]
    refine VV.c rfl (l_chip i S τ A B _ h (fun τ' A' B' h' f => ?_))
    have q := q τ' A' B' h' f
    refine VV.s rfl ?_
    refine VV.i (fun c => ?_) (fun c => ?_)
    · rw [decide_eq_true (show (oDo (4, u, v) s).1 < nI 0 from c)] at q
      repeat refine VV.s rfl ?_
      exact VV.r rfl q
    · rw [decide_eq_false (show ¬ (oDo (4, u, v) s).1 < nI 0 from c)] at q
      repeat refine VV.s rfl ?_
      exact VV.r rfl q
  · repeat (refine VV.sw (fun e => absurd e (by decide)) (fun _ => ?_))
    refine VV.sw (fun _ => ?_) (fun e => absurd rfl e)
    refine VV.s rfl ?_
    refine VV.c rfl (l_clear i S τ A B _ h (fun τ' A' B' h' f => ?_))
    have q := q τ' A' B' h' f
    refine VV.s rfl ?_
    refine VV.i (fun c => ?_) (fun c => ?_)
    · rw [decide_eq_true (show (oDo (5, u, v) s).1 < nI 0 from c)] at q
      repeat refine VV.s rfl ?_
      exact VV.r rfl q
    · rw [decide_eq_false (show ¬ (oDo (5, u, v) s).1 < nI 0 from c)] at q
      repeat refine VV.s rfl ?_
      exact VV.r rfl q
  · repeat (refine VV.sw (fun e => absurd e (by decide)) (fun _ => ?_))
    refine VV.sw (fun _ => ?_) (fun e => absurd rfl e)
    refine VV.s rfl ?_
    refine VV.c rfl (l_take i S τ A B _ h (fun τ' A' B' h' f => ?_))
    have q := q τ' A' B' h' f
    refine VV.s rfl ?_
    refine VV.i (fun c => ?_) (fun c => ?_)
    · rw [decide_eq_true (show (oDo (6, u, v) s).1 < nI 0 from c)] at q
      repeat refine VV.s rfl ?_
      exact VV.r rfl q
    · rw [decide_eq_false (show ¬ (oDo (6, u, v) s).1 < nI 0 from c)] at q
      repeat refine VV.s rfl ?_
      exact VV.r rfl q
  · repeat (refine VV.sw (fun e => absurd e (by decide)) (fun _ => ?_))
    refine VV.sw (fun _ => ?_) (fun e => absurd rfl e)
    refine VV.s rfl ?_
    refine VV.c rfl (l_flip i S τ A B _ h (fun τ' A' B' h' f => ?_))
    have q := q τ' A' B' h' f
    rw [decide_eq_false (show ¬ (oDo (7, u, v) s).1 < nI 0 from (by decide : ¬ (nI 1 < nI 0)))] at q
    refine VV.s rfl ?_
    refine VV.b (b_ltF (a := 1) (b := 0) (by omega) (by omega)) ?_
    repeat refine VV.s rfl ?_
    exact VV.r rfl q
  · repeat (refine VV.sw (fun e => absurd e (by decide)) (fun _ => ?_))
    refine VV.sw (fun _ => ?_) (fun e => absurd rfl e)
    refine VV.s rfl ?_
    refine VV.s rfl ?_
    refine VV.g58 rfl rfl ?_
    refine VV.s rfl ?_
    refine VV.ia rfl rfl rfl (show k < 12 from k12) ?_
    rw [show A 72 k = u from r3 rfl]
    refine VV.s rfl ?_
    refine VV.g58 rfl rfl ?_
    refine VV.s rfl ?_
    refine VV.ia rfl rfl rfl (show k < 12 from k12) ?_
    rw [show A 74 k = v from r4 rfl]
    refine VV.c rfl (l_vector i S τ A B _ h (fun τ' A' B' h' f => ?_))
    have q := q τ' A' B' h' f
    refine VV.s rfl ?_
    refine VV.i (fun c => ?_) (fun c => ?_)
    · rw [decide_eq_true (show (oDo (8, u, v) s).1 < nI 0 from c)] at q
      repeat refine VV.s rfl ?_
      exact VV.r rfl q
    · rw [decide_eq_false (show ¬ (oDo (8, u, v) s).1 < nI 0 from c)] at q
      repeat refine VV.s rfl ?_
      exact VV.r rfl q
theorem cm_runs (S : Cl) {Q : Option Value → Hp → Prop} (N : Nat) (hN : N ≤ 12) : ∀ (l : List Rw) (k m : Nat) (s : St) (τ : Nat → Int32) (A : Nat → Nat → Int32) (B : Nat → Nat → Int64), k + l.length = N → m ≤ k → IV s → RM s τ A B → (∀ j x, l[j]? = some x → RQ A (k + j) x) → (∀ x, x ∈ l → x.1 < 9) → τ 5822 = nI N → (∀ τ' A' B', RM (oRun l m s).2 τ' A' B' → FM τ A B τ' A' B' → Q (some (.int (nI (oRun l m s).1))) (HH S τ' A' B')) → VV (d + 7) M_M_read 112 [some (.ref 58), some (.int (nI m)), some (.int (nI k))] [] (HH S τ A B) Q := by
  intro l
  induction l with
  | nil =>
    intro k m s τ A B hk _ i h _ _ h22 q
    have hk : k = N := by rw [List.length_nil] at hk; omega
    subst hk
    refine VV.s rfl ?_
    refine VV.s rfl ?_
    refine VV.g58n rfl rfl h22 ?_
    refine VV.s rfl ?_
    refine VV.b (b_geT (by omega) (by omega)) ?_
    repeat refine VV.s rfl ?_
    exact VV.r rfl (q τ A B h FM.refl)
  | cons x l ih =>
    intro k m s τ A B hk hm i h rc hl h22 q
    rw [List.length_cons] at hk
    refine VV.s rfl ?_
    refine VV.s rfl ?_
    refine VV.g58n rfl rfl h22 ?_
    refine VV.s rfl ?_
    refine VV.b (b_geF (by omega) (by omega)) ?_
    refine VV.s rfl ?_
    refine VV.s rfl ?_
    refine VV.s rfl ?_
    refine VV.c rfl (cm_done S τ A B i (k := k) (hl x List.mem_cons_self) (by omega) (rc 0 x rfl) h (fun τ' A' B' h' f => ?_))
    have T := fun m' hm' q' => ih (k + 1) m' (oDo x s).2 τ' A' B' (by omega) hm' (iv_do i) h' (fun j y e => by
      have := rc (j + 1) y e
      rw [show k + (j + 1) = k + 1 + j by omega] at this
      unfold RQ
      rw [f.2.1 71 (by omega), f.2.1 72 (by omega), f.2.1 73 (by omega), f.2.1 74 (by omega)]
      exact this) (fun y hy => hl y (List.mem_cons_of_mem _ hy)) ((f.1 5822 (by omega)).trans h22) q'
    by_cases c : (oDo x s).1 < nI 0
    · have T := T m (by omega) (fun τ2 A2 B2 h2 f2 => by
        have w := q τ2 A2 B2 (by rw [oRun, if_pos c]; exact h2) (f.fm.trans f2)
        rw [oRun, if_pos c] at w
        exact w)
      rw [decide_eq_true c]
      show VV _ _ _ _ [.int (nI 0), .int (nI m)] _ _
      refine VV.s rfl ?_
      refine VV.b (b_eqT (a := 0) (b := 0) rfl (by omega)) ?_
      refine VV.s rfl ?_
      refine VV.add rfl ?_
      refine VV.s rfl ?_
      refine VV.inc rfl rfl rfl ?_
      repeat (first | exact T | refine VV.s rfl ?_)
    · have T := T (m + 1) (by omega) (fun τ2 A2 B2 h2 f2 => by
        have w := q τ2 A2 B2 (by rw [oRun, if_neg c]; exact h2) (f.fm.trans f2)
        rw [oRun, if_neg c] at w
        exact w)
      rw [decide_eq_false c]
      show VV _ _ _ _ [.int (nI 1), .int (nI m)] _ _
      refine VV.s rfl ?_
      refine VV.b (b_eqF (a := 1) (b := 0) (by omega) (by omega)) ?_
      refine VV.s rfl ?_
      refine VV.s rfl ?_
      refine VV.add rfl ?_
      refine VV.s rfl ?_
      refine VV.inc rfl rfl rfl ?_
      repeat (first | exact T | refine VV.s rfl ?_)
theorem m_read {s : St} (i : IV s) : KM (d + 7) M_M_read [.ref 58] s (oRead s) := by
  intro S τ A B Q h q
  have ht := i.tm
  unfold oRead at q
  refine CC.mono (cm_ff (d := d + 3) (L2 := []) ht (fun f τ' A' g e => ?_) (fun τ' A' g e h22 rows => ?_) ⟨h.tm, h.tx⟩) (fun v h' hv => hv)
  · rw [e] at q
    exact q _ _ _ (h.fr g).t0 (FM.ut (by decide) g.fm)
  · rw [e] at q
    have hl := pT_l (s := s) 12 0
    have T := cm_runs (d := d) S (Q := Q) (pT s 12 0).2.length hl (pT s 12 0).2 0 0 s.t0 (up τ' 5815 (nI 0)) A' B (by omega) (Nat.le_refl 0) (iv_t0 i) (h.fr g).t0 (fun j x ej => by rw [Nat.zero_add]; exact rows j x ej) (pT_k 12 0) h22 (fun τ2 A2 B2 h2 f2 => q τ2 A2 B2 h2 ((FM.ut (by decide) g.fm).trans f2))
    repeat (first | exact T | refine VV.s rfl ?_)
end MR2
