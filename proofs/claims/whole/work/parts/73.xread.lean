/-! the class: texts -/
def FP (τ τ' : Nat → Int32) : Prop := ∀ k, k ≠ 3803 → k ≠ 3804 → τ' k = τ k
theorem FP.refl {τ : Nat → Int32} : FP τ τ := fun _ _ _ => rfl
theorem FP.up3 {τ τ' : Nat → Int32} {x : Int32} (h : FP τ τ') : FP τ (up τ' 3803 x) := fun k a b => (up_n a).trans (h k a b)
theorem FP.up4 {τ τ' : Nat → Int32} {x : Int32} (h : FP τ τ') : FP τ (up τ' 3804 x) := fun k a b => (up_n b).trans (h k a b)
theorem FP.trans {τ τ' τ'' : Nat → Int32} (h : FP τ τ') (g : FP τ' τ'') : FP τ τ'' := fun k a b => (g k a b).trans (h k a b)
def TX (s : St) (τ : Nat → Int32) (A : Nat → Nat → Int32) : Prop := τ 3802 = nI s.tm ∧ ∀ k, k < s.tm → A 39 k = s.tx k
theorem TX.fp {s : St} {τ τ' : Nat → Int32} {A : Nat → Nat → Int32} (h : TX s τ A) (f : FP τ τ') : TX s τ' A := ⟨(f 3802 (by omega) (by omega)).trans h.1, h.2⟩
theorem ten0 (x : Int32) : nI 10 * nI 0 + x = x := by rw [show nI 10 * nI 0 = 0 from rfl, Int32.zero_add]
section TXT
variable {d : Nat} {S : Cl} {τ : Nat → Int32} {A : Nat → Nat → Int32} {B : Nat → Nat → Int64} {Q : Option Value → Hp → Prop} {s : St} {p : Nat}
theorem cl_sign (ht : s.tm ≤ 100) (h : TX s τ A) (h3 : τ 3803 = nI p) (hp : p ≤ 110) (q : Q (some (.int (hr s p))) (HH S τ A B)) : CC d M_Text_signHere [.ref 38] (HH S τ A B) Q := by
  have h2 := h.1
  refine CC.of rfl ?_
  unfold hr at q
  by_cases c : p < s.tm
  · rw [if_pos c, ← h.2 p c] at q
    repeat (first | refine VV.gn rfl rfl rfl h2 ?_ | refine VV.gn rfl rfl rfl h3 ?_ | refine VV.iln (a := 39) (n := 100) rfl rfl rfl ?_ | refine VV.add rfl ?_ | refine VV.inc rfl rfl rfl ?_ | refine VV.mul rfl ?_ | refine VV.sub rfl (by omega) ?_ | refine VV.shl1 rfl (by omega) ?_ | refine VV.shl rfl ⟨by omega, by omega⟩ ?_ | refine VV.shr rfl ⟨by omega, by omega⟩ ?_ | refine VV.and rfl ?_ | refine VV.div rfl ⟨by omega, by omega, by omega⟩ ?_ | refine VV.rem rfl ⟨by omega, by omega, by omega⟩ ?_ | refine VV.s rfl ?_  | refine VV.b (b_ltT (by omega) (by omega)) ?_ | refine VV.b (b_ltF (by omega) (by omega)) ?_ | refine VV.b (b_geT (by omega) (by omega)) ?_ | refine VV.b (b_geF (by omega) (by omega)) ?_ | refine VV.b (b_gtT (by omega) (by omega)) ?_ | refine VV.b (b_gtF (by omega) (by omega)) ?_ | refine VV.b (b_leT (by omega) (by omega)) ?_ | refine VV.b (b_leF (by omega) (by omega)) ?_ | refine VV.b (b_eqT (by omega) (by omega)) ?_ | refine VV.b (b_eqF (by omega) (by omega)) ?_ | refine VV.b (b_neT (by omega) (by omega)) ?_ | refine VV.b (b_neF (by omega) (by omega)) ?_)
    refine VV.ia rfl rfl rfl (show p < 100 by omega) ?_
    repeat refine VV.s rfl ?_
    exact VV.r rfl q
  · rw [if_neg c] at q
    repeat (first | refine VV.gn rfl rfl rfl h2 ?_ | refine VV.gn rfl rfl rfl h3 ?_ | refine VV.iln (a := 39) (n := 100) rfl rfl rfl ?_ | refine VV.add rfl ?_ | refine VV.inc rfl rfl rfl ?_ | refine VV.mul rfl ?_ | refine VV.sub rfl (by omega) ?_ | refine VV.shl1 rfl (by omega) ?_ | refine VV.shl rfl ⟨by omega, by omega⟩ ?_ | refine VV.shr rfl ⟨by omega, by omega⟩ ?_ | refine VV.and rfl ?_ | refine VV.div rfl ⟨by omega, by omega, by omega⟩ ?_ | refine VV.rem rfl ⟨by omega, by omega, by omega⟩ ?_ | refine VV.s rfl ?_  | refine VV.b (b_ltT (by omega) (by omega)) ?_ | refine VV.b (b_ltF (by omega) (by omega)) ?_ | refine VV.b (b_geT (by omega) (by omega)) ?_ | refine VV.b (b_geF (by omega) (by omega)) ?_ | refine VV.b (b_gtT (by omega) (by omega)) ?_ | refine VV.b (b_gtF (by omega) (by omega)) ?_ | refine VV.b (b_leT (by omega) (by omega)) ?_ | refine VV.b (b_leF (by omega) (by omega)) ?_ | refine VV.b (b_eqT (by omega) (by omega)) ?_ | refine VV.b (b_eqF (by omega) (by omega)) ?_ | refine VV.b (b_neT (by omega) (by omega)) ?_ | refine VV.b (b_neF (by omega) (by omega)) ?_)
    exact VV.r rfl q
theorem cl_isDigit (ht : s.tm ≤ 100) (h : TX s τ A) (h3 : τ 3803 = nI p) (hp : p ≤ 110) (q : Q (some (.int (bI (dg (hr s p))))) (HH S τ A B)) : CC (d + 1) M_Text_isDigitHere [.ref 38] (HH S τ A B) Q := by
  refine CC.of rfl ?_
  repeat refine VV.s rfl ?_
  (refine VV.c rfl ?_; refine cl_sign ht h h3 hp ?_)
  refine VV.s rfl ?_
  refine VV.s rfl ?_
  refine VV.i (fun c1 => ?_) (fun c1 => ?_)
  · rw [show dg (hr s p) = false from rgB_lo c1] at q
    repeat refine VV.s rfl ?_
    exact VV.r rfl q
  repeat refine VV.s rfl ?_
  (refine VV.c rfl ?_; refine cl_sign ht h h3 hp ?_)
  refine VV.s rfl ?_
  refine VV.s rfl ?_
  refine VV.i (fun c2 => ?_) (fun c2 => ?_)
  · rw [show dg (hr s p) = false from rgB_hi c2] at q
    repeat refine VV.s rfl ?_
    exact VV.r rfl q
  rw [show dg (hr s p) = true from rgB_in c1 c2] at q
  repeat refine VV.s rfl ?_
  exact VV.r rfl q
theorem cl_pass {x : Int32} (ht : s.tm ≤ 100) (h : TX s τ A) (h3 : τ 3803 = nI p) (hp : p ≤ 110) (q1 : hr s p = x → Q (some (.int (nI 1))) (HH S (up τ 3803 (nI (p + 1))) A B)) (q0 : hr s p ≠ x → Q (some (.int (nI 0))) (HH S τ A B)) : CC (d + 1) M_Text_pass [.ref 38, .int x] (HH S τ A B) Q := by
  refine CC.of rfl ?_
  repeat refine VV.s rfl ?_
  (refine VV.c rfl ?_; refine cl_sign ht h h3 hp ?_)
  refine VV.s rfl ?_
  refine VV.s rfl ?_
  refine VV.i (fun c => ?_) (fun c => ?_)
  · repeat (first | refine VV.gn rfl rfl rfl (h3) ?_ | refine VV.p rfl rfl (show 3 < 5 by decide) rfl (wf_3803 _ _ _ _ _) ?_  | refine VV.add rfl ?_ | refine VV.inc rfl rfl rfl ?_ | refine VV.mul rfl ?_ | refine VV.sub rfl (by omega) ?_ | refine VV.shl1 rfl (by omega) ?_ | refine VV.shl rfl ⟨by omega, by omega⟩ ?_ | refine VV.shr rfl ⟨by omega, by omega⟩ ?_ | refine VV.and rfl ?_ | refine VV.div rfl ⟨by omega, by omega, by omega⟩ ?_ | refine VV.rem rfl ⟨by omega, by omega, by omega⟩ ?_ | refine VV.s rfl ?_  | refine VV.b (b_ltT (by omega) (by omega)) ?_ | refine VV.b (b_ltF (by omega) (by omega)) ?_ | refine VV.b (b_geT (by omega) (by omega)) ?_ | refine VV.b (b_geF (by omega) (by omega)) ?_ | refine VV.b (b_gtT (by omega) (by omega)) ?_ | refine VV.b (b_gtF (by omega) (by omega)) ?_ | refine VV.b (b_leT (by omega) (by omega)) ?_ | refine VV.b (b_leF (by omega) (by omega)) ?_ | refine VV.b (b_eqT (by omega) (by omega)) ?_ | refine VV.b (b_eqF (by omega) (by omega)) ?_ | refine VV.b (b_neT (by omega) (by omega)) ?_ | refine VV.b (b_neF (by omega) (by omega)) ?_)
    exact VV.r rfl (q1 c)
  · repeat refine VV.s rfl ?_
    exact VV.r rfl (q0 c)
theorem cl_passDigit (ht : s.tm ≤ 100) (h : TX s τ A) (h3 : τ 3803 = nI p) (hp : p ≤ 110) (q : Q (some (.int (dv (hr s p)))) (HH S (up τ 3803 (nI (p + 1))) A B)) : CC (d + 1) M_Text_passDigit [.ref 38] (HH S τ A B) Q := by
  refine CC.of rfl ?_
  repeat refine VV.s rfl ?_
  (refine VV.c rfl ?_; refine cl_sign ht h h3 hp ?_)
  refine VV.s rfl ?_
  refine VV.s rfl ?_
  repeat (first | refine VV.gn rfl rfl rfl (h3) ?_ | refine VV.p rfl rfl (show 3 < 5 by decide) rfl (wf_3803 _ _ _ _ _) ?_  | refine VV.add rfl ?_ | refine VV.inc rfl rfl rfl ?_ | refine VV.mul rfl ?_ | refine VV.sub rfl (by omega) ?_ | refine VV.shl1 rfl (by omega) ?_ | refine VV.shl rfl ⟨by omega, by omega⟩ ?_ | refine VV.shr rfl ⟨by omega, by omega⟩ ?_ | refine VV.and rfl ?_ | refine VV.div rfl ⟨by omega, by omega, by omega⟩ ?_ | refine VV.rem rfl ⟨by omega, by omega, by omega⟩ ?_ | refine VV.s rfl ?_  | refine VV.b (b_ltT (by omega) (by omega)) ?_ | refine VV.b (b_ltF (by omega) (by omega)) ?_ | refine VV.b (b_geT (by omega) (by omega)) ?_ | refine VV.b (b_geF (by omega) (by omega)) ?_ | refine VV.b (b_gtT (by omega) (by omega)) ?_ | refine VV.b (b_gtF (by omega) (by omega)) ?_ | refine VV.b (b_leT (by omega) (by omega)) ?_ | refine VV.b (b_leF (by omega) (by omega)) ?_ | refine VV.b (b_eqT (by omega) (by omega)) ?_ | refine VV.b (b_eqF (by omega) (by omega)) ?_ | refine VV.b (b_neT (by omega) (by omega)) ?_ | refine VV.b (b_neF (by omega) (by omega)) ?_)
  exact VV.r rfl q
theorem cl_passNumber (ht : s.tm ≤ 100) (h : TX s τ A) (h3 : τ 3803 = nI p) (hp : p ≤ s.tm) (q : ∀ τ', FP τ τ' → τ' 3803 = nI (pN s p).2.1 → ((pN s p).1 = true → τ' 3804 = (pN s p).2.2) → Q (some (.int (bI (pN s p).1))) (HH S τ' A B)) : CC (d + 2) M_Text_passNumber [.ref 38] (HH S τ A B) Q := by
  have t60 : ∀ (τ1 : Nat → Int32) (b : Bool) (v : Int32), τ1 3804 = v → (∀ τ', FP τ1 τ' → τ' 3803 = τ1 3803 → τ' 3804 = (if b = true then -v else v) → Q (some (.int (nI 1))) (HH S τ' A B)) → VV (d + 2) M_Text_passNumber 47 [some (.ref 38), some (.int (bI b))] [] (HH S τ1 A B) Q := by
    intro τ1 b v hv q
    cases b with
    | true =>
      refine VV.s rfl ?_
      refine VV.s rfl ?_
      refine VV.b (b_eqF (a := 1) (b := 0) (by omega) (by omega)) ?_
      refine VV.s rfl ?_
      refine VV.s rfl ?_
      refine VV.gn rfl rfl rfl hv ?_
      refine VV.s rfl ?_
      refine VV.p rfl rfl (show 4 < 5 by decide) rfl (wf_3804 _ _ _ _ _) ?_
      repeat refine VV.s rfl ?_
      exact VV.r rfl (q _ FP.refl.up4 rfl rfl)
    | false =>
      refine VV.s rfl ?_
      refine VV.s rfl ?_
      refine VV.b (b_eqT (a := 0) (b := 0) rfl (by omega)) ?_
      repeat refine VV.s rfl ?_
      exact VV.r rfl (q _ FP.refl rfl hv)
  have t7 : ∀ (τ1 : Nat → Int32) (b : Bool), FP τ τ1 → τ1 3803 = nI (pQ s p) → (hr s p = nI 45 ↔ b = true) → VV (d + 2) M_Text_passNumber 7 [some (.ref 38), some (.int (bI b))] [] (HH S τ1 A B) Q := by
    intro τ1 b f h3 hb
    have hpq := pQ_le hp
    have hS : ∀ v, (if b = true then -v else v) = pS s p v := by
      intro v
      unfold pS
      by_cases z : hr s p = nI 45
      · rw [if_pos z, if_pos (hb.mp z)]
      · rw [if_neg z, if_neg (fun w => z (hb.mpr w))]
    repeat refine VV.s rfl ?_
    (refine VV.c rfl ?_; refine cl_isDigit ht (h.fp f) h3 (by omega) ?_)
    unfold pN at q
    cases c : dg (hr s (pQ s p)) with
    | false =>
      rw [if_neg (by rw [c]; exact Bool.false_ne_true)] at q
      show VV _ _ _ _ [.int (nI 0)] _ _
      repeat (first | refine VV.add rfl ?_ | refine VV.inc rfl rfl rfl ?_ | refine VV.mul rfl ?_ | refine VV.sub rfl (by omega) ?_ | refine VV.shl1 rfl (by omega) ?_ | refine VV.shl rfl ⟨by omega, by omega⟩ ?_ | refine VV.shr rfl ⟨by omega, by omega⟩ ?_ | refine VV.and rfl ?_ | refine VV.div rfl ⟨by omega, by omega, by omega⟩ ?_ | refine VV.rem rfl ⟨by omega, by omega, by omega⟩ ?_ | refine VV.s rfl ?_  | refine VV.b (b_ltT (by omega) (by omega)) ?_ | refine VV.b (b_ltF (by omega) (by omega)) ?_ | refine VV.b (b_geT (by omega) (by omega)) ?_ | refine VV.b (b_geF (by omega) (by omega)) ?_ | refine VV.b (b_gtT (by omega) (by omega)) ?_ | refine VV.b (b_gtF (by omega) (by omega)) ?_ | refine VV.b (b_leT (by omega) (by omega)) ?_ | refine VV.b (b_leF (by omega) (by omega)) ?_ | refine VV.b (b_eqT (by omega) (by omega)) ?_ | refine VV.b (b_eqF (by omega) (by omega)) ?_ | refine VV.b (b_neT (by omega) (by omega)) ?_ | refine VV.b (b_neF (by omega) (by omega)) ?_)
      exact VV.r rfl (q τ1 f h3 (fun z => by cases z))
    | true =>
      have c' := hr_dg c
      rw [if_pos c] at q
      show VV _ _ _ _ [.int (nI 1)] _ _
      repeat (first | refine VV.add rfl ?_ | refine VV.inc rfl rfl rfl ?_ | refine VV.mul rfl ?_ | refine VV.sub rfl (by omega) ?_ | refine VV.shl1 rfl (by omega) ?_ | refine VV.shl rfl ⟨by omega, by omega⟩ ?_ | refine VV.shr rfl ⟨by omega, by omega⟩ ?_ | refine VV.and rfl ?_ | refine VV.div rfl ⟨by omega, by omega, by omega⟩ ?_ | refine VV.rem rfl ⟨by omega, by omega, by omega⟩ ?_ | refine VV.s rfl ?_  | refine VV.b (b_ltT (by omega) (by omega)) ?_ | refine VV.b (b_ltF (by omega) (by omega)) ?_ | refine VV.b (b_geT (by omega) (by omega)) ?_ | refine VV.b (b_geF (by omega) (by omega)) ?_ | refine VV.b (b_gtT (by omega) (by omega)) ?_ | refine VV.b (b_gtF (by omega) (by omega)) ?_ | refine VV.b (b_leT (by omega) (by omega)) ?_ | refine VV.b (b_leF (by omega) (by omega)) ?_ | refine VV.b (b_eqT (by omega) (by omega)) ?_ | refine VV.b (b_eqF (by omega) (by omega)) ?_ | refine VV.b (b_neT (by omega) (by omega)) ?_ | refine VV.b (b_neF (by omega) (by omega)) ?_)
      (refine VV.c rfl ?_; refine cl_passDigit ht (h.fp f) h3 (by omega) ?_)
      refine VV.p rfl rfl (show 4 < 5 by decide) rfl (wf_3804 _ _ _ _ _) ?_
      repeat refine VV.s rfl ?_
      have f2 : FP τ (up (up τ1 3803 (nI (pQ s p + 1))) 3804 (dv (hr s (pQ s p)))) := f.up3.up4
      (refine VV.c rfl ?_; refine cl_isDigit (p := pQ s p + 1) ht (h.fp f2) rfl (by omega) ?_)
      cases c2 : dg (hr s (pQ s p + 1)) with
      | false =>
        rw [if_neg (by rw [c2]; exact Bool.false_ne_true)] at q
        show VV _ _ _ _ [.int (nI 0)] _ _
        have T := t60 (up (up τ1 3803 (nI (pQ s p + 1))) 3804 (dv (hr s (pQ s p)))) b _ rfl (fun τ' f' e3 e4 => q τ' (f2.trans f') e3 (fun _ => e4.trans (hS _)))
        repeat (first | exact T | refine VV.add rfl ?_ | refine VV.inc rfl rfl rfl ?_ | refine VV.mul rfl ?_ | refine VV.sub rfl (by omega) ?_ | refine VV.shl1 rfl (by omega) ?_ | refine VV.shl rfl ⟨by omega, by omega⟩ ?_ | refine VV.shr rfl ⟨by omega, by omega⟩ ?_ | refine VV.and rfl ?_ | refine VV.div rfl ⟨by omega, by omega, by omega⟩ ?_ | refine VV.rem rfl ⟨by omega, by omega, by omega⟩ ?_ | refine VV.s rfl ?_  | refine VV.b (b_ltT (by omega) (by omega)) ?_ | refine VV.b (b_ltF (by omega) (by omega)) ?_ | refine VV.b (b_geT (by omega) (by omega)) ?_ | refine VV.b (b_geF (by omega) (by omega)) ?_ | refine VV.b (b_gtT (by omega) (by omega)) ?_ | refine VV.b (b_gtF (by omega) (by omega)) ?_ | refine VV.b (b_leT (by omega) (by omega)) ?_ | refine VV.b (b_leF (by omega) (by omega)) ?_ | refine VV.b (b_eqT (by omega) (by omega)) ?_ | refine VV.b (b_eqF (by omega) (by omega)) ?_ | refine VV.b (b_neT (by omega) (by omega)) ?_ | refine VV.b (b_neF (by omega) (by omega)) ?_)
      | true =>
        rw [if_pos c2] at q
        show VV _ _ _ _ [.int (nI 1)] _ _
        refine VV.s rfl ?_
        refine VV.b (b_eqF (a := 1) (b := 0) (by omega) (by omega)) ?_
        refine VV.s rfl ?_
        refine VV.s rfl ?_
        refine VV.s rfl ?_
        refine VV.gn rfl rfl rfl (show _ = dv (hr s (pQ s p)) from rfl) ?_
        refine VV.s rfl ?_
        refine VV.s rfl ?_
        (refine VV.c rfl ?_; refine cl_passDigit (p := pQ s p + 1) ht (h.fp f2) rfl (by omega) ?_)
        refine VV.s rfl ?_
        refine VV.p rfl rfl (show 4 < 5 by decide) rfl (wf_3804 _ _ _ _ _) ?_
        exact t60 _ b _ rfl (fun τ' f' e3 e4 => q τ' ((f2.up3.up4).trans f') e3 (fun _ => e4.trans (hS _)))
  refine CC.of rfl ?_
  repeat refine VV.s rfl ?_
  (refine VV.c rfl ?_; refine cl_pass ht h h3 (by omega) (fun c => ?_) (fun c => ?_))
  · have T := t7 (up τ 3803 (nI (p + 1))) true FP.refl.up3 (by unfold pQ; rw [if_pos c]; exact up_s _ _ _) ⟨fun _ => rfl, fun _ => c⟩
    repeat (first | exact T | refine VV.add rfl ?_ | refine VV.inc rfl rfl rfl ?_ | refine VV.mul rfl ?_ | refine VV.sub rfl (by omega) ?_ | refine VV.shl1 rfl (by omega) ?_ | refine VV.shl rfl ⟨by omega, by omega⟩ ?_ | refine VV.shr rfl ⟨by omega, by omega⟩ ?_ | refine VV.and rfl ?_ | refine VV.div rfl ⟨by omega, by omega, by omega⟩ ?_ | refine VV.rem rfl ⟨by omega, by omega, by omega⟩ ?_ | refine VV.s rfl ?_  | refine VV.b (b_ltT (by omega) (by omega)) ?_ | refine VV.b (b_ltF (by omega) (by omega)) ?_ | refine VV.b (b_geT (by omega) (by omega)) ?_ | refine VV.b (b_geF (by omega) (by omega)) ?_ | refine VV.b (b_gtT (by omega) (by omega)) ?_ | refine VV.b (b_gtF (by omega) (by omega)) ?_ | refine VV.b (b_leT (by omega) (by omega)) ?_ | refine VV.b (b_leF (by omega) (by omega)) ?_ | refine VV.b (b_eqT (by omega) (by omega)) ?_ | refine VV.b (b_eqF (by omega) (by omega)) ?_ | refine VV.b (b_neT (by omega) (by omega)) ?_ | refine VV.b (b_neF (by omega) (by omega)) ?_)
  · have T := t7 τ false FP.refl (by unfold pQ; rw [if_neg c]; exact h3) ⟨fun z => absurd z c, fun z => by cases z⟩
    repeat (first | exact T | refine VV.add rfl ?_ | refine VV.inc rfl rfl rfl ?_ | refine VV.mul rfl ?_ | refine VV.sub rfl (by omega) ?_ | refine VV.shl1 rfl (by omega) ?_ | refine VV.shl rfl ⟨by omega, by omega⟩ ?_ | refine VV.shr rfl ⟨by omega, by omega⟩ ?_ | refine VV.and rfl ?_ | refine VV.div rfl ⟨by omega, by omega, by omega⟩ ?_ | refine VV.rem rfl ⟨by omega, by omega, by omega⟩ ?_ | refine VV.s rfl ?_  | refine VV.b (b_ltT (by omega) (by omega)) ?_ | refine VV.b (b_ltF (by omega) (by omega)) ?_ | refine VV.b (b_geT (by omega) (by omega)) ?_ | refine VV.b (b_geF (by omega) (by omega)) ?_ | refine VV.b (b_gtT (by omega) (by omega)) ?_ | refine VV.b (b_gtF (by omega) (by omega)) ?_ | refine VV.b (b_leT (by omega) (by omega)) ?_ | refine VV.b (b_leF (by omega) (by omega)) ?_ | refine VV.b (b_eqT (by omega) (by omega)) ?_ | refine VV.b (b_eqF (by omega) (by omega)) ?_ | refine VV.b (b_neT (by omega) (by omega)) ?_ | refine VV.b (b_neF (by omega) (by omega)) ?_)
theorem cl_dig9 {x : Int32} {h : Hp} (c : kOf x = 9) (q : Q (some (.int (-(nI 1)))) h) : CC d M_Text_digitsBehind [.int x] h Q := by
  refine CC.of rfl ?_
  refine VV.s rfl ?_
  refine VV.s rfl ?_
  obtain ⟨n1, n2, n3, n4, n5, n6, n7, n8, n9⟩ := kOf_n c
  have L : VV d M_Text_digitsBehind 126 [some (.int x)] [] h Q := by
    repeat refine VV.s rfl ?_
    exact VV.r rfl q
  repeat (refine VV.sw (fun e => by first | exact absurd e n1 | exact absurd e n2 | exact absurd e n3 | exact absurd e n4 | exact absurd e n5 | exact absurd e n6 | exact absurd e n7 | exact absurd e n8 | exact absurd e n9 | exact L) (fun _ => ?_))
  exact VV.sw0 L
theorem cl_digK {k : Nat} {h : Hp} (hk : k < 9) (q : Q (some (.int (nI (kdig k)))) h) : CC d M_Text_digitsBehind [.int (nI (kcode k))] h Q := by
  refine CC.of rfl ?_
  refine VV.s rfl ?_
  refine VV.s rfl ?_
  rcases kk9 hk with rfl | rfl | rfl | rfl | rfl | rfl | rfl | rfl | rfl
  all_goals
    repeat (refine VV.sw (fun e => absurd e (by decide)) (fun _ => ?_))
    refine VV.sw (fun _ => ?_) (fun e => absurd rfl e)
    repeat refine VV.s rfl ?_
    exact VV.r rfl q
theorem cl_hasNumber {k : Nat} {h : Hp} (hk : k < 9) (q : Q (some (.int (bI (!kbare k)))) h) : CC (d + 1) M_Text_hasNumber [.int (nI (kcode k))] h Q := by
  rcases kk9 hk with rfl | rfl | rfl | rfl | rfl | rfl | rfl | rfl | rfl
  · show CC _ _ [.int (nI 110)] _ _
    refine CC.of rfl ?_
    repeat refine VV.s rfl ?_
    (refine VV.c rfl ?_; refine cl_digK (k := 0) hk ?_)
    show VV _ _ _ _ [.int (nI 1)] _ _
    repeat (first | refine VV.add rfl ?_ | refine VV.inc rfl rfl rfl ?_ | refine VV.mul rfl ?_ | refine VV.sub rfl (by omega) ?_ | refine VV.shl1 rfl (by omega) ?_ | refine VV.shl rfl ⟨by omega, by omega⟩ ?_ | refine VV.shr rfl ⟨by omega, by omega⟩ ?_ | refine VV.and rfl ?_ | refine VV.div rfl ⟨by omega, by omega, by omega⟩ ?_ | refine VV.rem rfl ⟨by omega, by omega, by omega⟩ ?_ | refine VV.s rfl ?_  | refine VV.b (b_ltT (by omega) (by omega)) ?_ | refine VV.b (b_ltF (by omega) (by omega)) ?_ | refine VV.b (b_geT (by omega) (by omega)) ?_ | refine VV.b (b_geF (by omega) (by omega)) ?_ | refine VV.b (b_gtT (by omega) (by omega)) ?_ | refine VV.b (b_gtF (by omega) (by omega)) ?_ | refine VV.b (b_leT (by omega) (by omega)) ?_ | refine VV.b (b_leF (by omega) (by omega)) ?_ | refine VV.b (b_eqT (by omega) (by omega)) ?_ | refine VV.b (b_eqF (by omega) (by omega)) ?_ | refine VV.b (b_neT (by omega) (by omega)) ?_ | refine VV.b (b_neF (by omega) (by omega)) ?_)
    exact VV.r rfl q
  · show CC _ _ [.int (nI 97)] _ _
    refine CC.of rfl ?_
    repeat refine VV.s rfl ?_
    (refine VV.c rfl ?_; refine cl_digK (k := 1) hk ?_)
    show VV _ _ _ _ [.int (nI 2)] _ _
    repeat (first | refine VV.add rfl ?_ | refine VV.inc rfl rfl rfl ?_ | refine VV.mul rfl ?_ | refine VV.sub rfl (by omega) ?_ | refine VV.shl1 rfl (by omega) ?_ | refine VV.shl rfl ⟨by omega, by omega⟩ ?_ | refine VV.shr rfl ⟨by omega, by omega⟩ ?_ | refine VV.and rfl ?_ | refine VV.div rfl ⟨by omega, by omega, by omega⟩ ?_ | refine VV.rem rfl ⟨by omega, by omega, by omega⟩ ?_ | refine VV.s rfl ?_  | refine VV.b (b_ltT (by omega) (by omega)) ?_ | refine VV.b (b_ltF (by omega) (by omega)) ?_ | refine VV.b (b_geT (by omega) (by omega)) ?_ | refine VV.b (b_geF (by omega) (by omega)) ?_ | refine VV.b (b_gtT (by omega) (by omega)) ?_ | refine VV.b (b_gtF (by omega) (by omega)) ?_ | refine VV.b (b_leT (by omega) (by omega)) ?_ | refine VV.b (b_leF (by omega) (by omega)) ?_ | refine VV.b (b_eqT (by omega) (by omega)) ?_ | refine VV.b (b_eqF (by omega) (by omega)) ?_ | refine VV.b (b_neT (by omega) (by omega)) ?_ | refine VV.b (b_neF (by omega) (by omega)) ?_)
    exact VV.r rfl q
  · show CC _ _ [.int (nI 120)] _ _
    refine CC.of rfl ?_
    repeat refine VV.s rfl ?_
    (refine VV.c rfl ?_; refine cl_digK (k := 2) hk ?_)
    show VV _ _ _ _ [.int (nI 1)] _ _
    repeat (first | refine VV.add rfl ?_ | refine VV.inc rfl rfl rfl ?_ | refine VV.mul rfl ?_ | refine VV.sub rfl (by omega) ?_ | refine VV.shl1 rfl (by omega) ?_ | refine VV.shl rfl ⟨by omega, by omega⟩ ?_ | refine VV.shr rfl ⟨by omega, by omega⟩ ?_ | refine VV.and rfl ?_ | refine VV.div rfl ⟨by omega, by omega, by omega⟩ ?_ | refine VV.rem rfl ⟨by omega, by omega, by omega⟩ ?_ | refine VV.s rfl ?_  | refine VV.b (b_ltT (by omega) (by omega)) ?_ | refine VV.b (b_ltF (by omega) (by omega)) ?_ | refine VV.b (b_geT (by omega) (by omega)) ?_ | refine VV.b (b_geF (by omega) (by omega)) ?_ | refine VV.b (b_gtT (by omega) (by omega)) ?_ | refine VV.b (b_gtF (by omega) (by omega)) ?_ | refine VV.b (b_leT (by omega) (by omega)) ?_ | refine VV.b (b_leF (by omega) (by omega)) ?_ | refine VV.b (b_eqT (by omega) (by omega)) ?_ | refine VV.b (b_eqF (by omega) (by omega)) ?_ | refine VV.b (b_neT (by omega) (by omega)) ?_ | refine VV.b (b_neF (by omega) (by omega)) ?_)
    exact VV.r rfl q
  · show CC _ _ [.int (nI 121)] _ _
    refine CC.of rfl ?_
    repeat refine VV.s rfl ?_
    (refine VV.c rfl ?_; refine cl_digK (k := 3) hk ?_)
    show VV _ _ _ _ [.int (nI 1)] _ _
    repeat (first | refine VV.add rfl ?_ | refine VV.inc rfl rfl rfl ?_ | refine VV.mul rfl ?_ | refine VV.sub rfl (by omega) ?_ | refine VV.shl1 rfl (by omega) ?_ | refine VV.shl rfl ⟨by omega, by omega⟩ ?_ | refine VV.shr rfl ⟨by omega, by omega⟩ ?_ | refine VV.and rfl ?_ | refine VV.div rfl ⟨by omega, by omega, by omega⟩ ?_ | refine VV.rem rfl ⟨by omega, by omega, by omega⟩ ?_ | refine VV.s rfl ?_  | refine VV.b (b_ltT (by omega) (by omega)) ?_ | refine VV.b (b_ltF (by omega) (by omega)) ?_ | refine VV.b (b_geT (by omega) (by omega)) ?_ | refine VV.b (b_geF (by omega) (by omega)) ?_ | refine VV.b (b_gtT (by omega) (by omega)) ?_ | refine VV.b (b_gtF (by omega) (by omega)) ?_ | refine VV.b (b_leT (by omega) (by omega)) ?_ | refine VV.b (b_leF (by omega) (by omega)) ?_ | refine VV.b (b_eqT (by omega) (by omega)) ?_ | refine VV.b (b_eqF (by omega) (by omega)) ?_ | refine VV.b (b_neT (by omega) (by omega)) ?_ | refine VV.b (b_neF (by omega) (by omega)) ?_)
    exact VV.r rfl q
  · show CC _ _ [.int (nI 100)] _ _
    refine CC.of rfl ?_
    repeat refine VV.s rfl ?_
    (refine VV.c rfl ?_; refine cl_digK (k := 4) hk ?_)
    show VV _ _ _ _ [.int (nI 1)] _ _
    repeat (first | refine VV.add rfl ?_ | refine VV.inc rfl rfl rfl ?_ | refine VV.mul rfl ?_ | refine VV.sub rfl (by omega) ?_ | refine VV.shl1 rfl (by omega) ?_ | refine VV.shl rfl ⟨by omega, by omega⟩ ?_ | refine VV.shr rfl ⟨by omega, by omega⟩ ?_ | refine VV.and rfl ?_ | refine VV.div rfl ⟨by omega, by omega, by omega⟩ ?_ | refine VV.rem rfl ⟨by omega, by omega, by omega⟩ ?_ | refine VV.s rfl ?_  | refine VV.b (b_ltT (by omega) (by omega)) ?_ | refine VV.b (b_ltF (by omega) (by omega)) ?_ | refine VV.b (b_geT (by omega) (by omega)) ?_ | refine VV.b (b_geF (by omega) (by omega)) ?_ | refine VV.b (b_gtT (by omega) (by omega)) ?_ | refine VV.b (b_gtF (by omega) (by omega)) ?_ | refine VV.b (b_leT (by omega) (by omega)) ?_ | refine VV.b (b_leF (by omega) (by omega)) ?_ | refine VV.b (b_eqT (by omega) (by omega)) ?_ | refine VV.b (b_eqF (by omega) (by omega)) ?_ | refine VV.b (b_neT (by omega) (by omega)) ?_ | refine VV.b (b_neF (by omega) (by omega)) ?_)
    exact VV.r rfl q
  · show CC _ _ [.int (nI 122)] _ _
    refine CC.of rfl ?_
    repeat refine VV.s rfl ?_
    (refine VV.c rfl ?_; refine cl_digK (k := 5) hk ?_)
    show VV _ _ _ _ [.int (nI 0)] _ _
    repeat (first | refine VV.add rfl ?_ | refine VV.inc rfl rfl rfl ?_ | refine VV.mul rfl ?_ | refine VV.sub rfl (by omega) ?_ | refine VV.shl1 rfl (by omega) ?_ | refine VV.shl rfl ⟨by omega, by omega⟩ ?_ | refine VV.shr rfl ⟨by omega, by omega⟩ ?_ | refine VV.and rfl ?_ | refine VV.div rfl ⟨by omega, by omega, by omega⟩ ?_ | refine VV.rem rfl ⟨by omega, by omega, by omega⟩ ?_ | refine VV.s rfl ?_  | refine VV.b (b_ltT (by omega) (by omega)) ?_ | refine VV.b (b_ltF (by omega) (by omega)) ?_ | refine VV.b (b_geT (by omega) (by omega)) ?_ | refine VV.b (b_geF (by omega) (by omega)) ?_ | refine VV.b (b_gtT (by omega) (by omega)) ?_ | refine VV.b (b_gtF (by omega) (by omega)) ?_ | refine VV.b (b_leT (by omega) (by omega)) ?_ | refine VV.b (b_leF (by omega) (by omega)) ?_ | refine VV.b (b_eqT (by omega) (by omega)) ?_ | refine VV.b (b_eqF (by omega) (by omega)) ?_ | refine VV.b (b_neT (by omega) (by omega)) ?_ | refine VV.b (b_neF (by omega) (by omega)) ?_)
    exact VV.r rfl q
  · show CC _ _ [.int (nI 116)] _ _
    refine CC.of rfl ?_
    repeat refine VV.s rfl ?_
    (refine VV.c rfl ?_; refine cl_digK (k := 6) hk ?_)
    show VV _ _ _ _ [.int (nI 0)] _ _
    repeat (first | refine VV.add rfl ?_ | refine VV.inc rfl rfl rfl ?_ | refine VV.mul rfl ?_ | refine VV.sub rfl (by omega) ?_ | refine VV.shl1 rfl (by omega) ?_ | refine VV.shl rfl ⟨by omega, by omega⟩ ?_ | refine VV.shr rfl ⟨by omega, by omega⟩ ?_ | refine VV.and rfl ?_ | refine VV.div rfl ⟨by omega, by omega, by omega⟩ ?_ | refine VV.rem rfl ⟨by omega, by omega, by omega⟩ ?_ | refine VV.s rfl ?_  | refine VV.b (b_ltT (by omega) (by omega)) ?_ | refine VV.b (b_ltF (by omega) (by omega)) ?_ | refine VV.b (b_geT (by omega) (by omega)) ?_ | refine VV.b (b_geF (by omega) (by omega)) ?_ | refine VV.b (b_gtT (by omega) (by omega)) ?_ | refine VV.b (b_gtF (by omega) (by omega)) ?_ | refine VV.b (b_leT (by omega) (by omega)) ?_ | refine VV.b (b_leF (by omega) (by omega)) ?_ | refine VV.b (b_eqT (by omega) (by omega)) ?_ | refine VV.b (b_eqF (by omega) (by omega)) ?_ | refine VV.b (b_neT (by omega) (by omega)) ?_ | refine VV.b (b_neF (by omega) (by omega)) ?_)
    exact VV.r rfl q
  · show CC _ _ [.int (nI 102)] _ _
    refine CC.of rfl ?_
    repeat refine VV.s rfl ?_
    (refine VV.c rfl ?_; refine cl_digK (k := 7) hk ?_)
    show VV _ _ _ _ [.int (nI 0)] _ _
    repeat (first | refine VV.add rfl ?_ | refine VV.inc rfl rfl rfl ?_ | refine VV.mul rfl ?_ | refine VV.sub rfl (by omega) ?_ | refine VV.shl1 rfl (by omega) ?_ | refine VV.shl rfl ⟨by omega, by omega⟩ ?_ | refine VV.shr rfl ⟨by omega, by omega⟩ ?_ | refine VV.and rfl ?_ | refine VV.div rfl ⟨by omega, by omega, by omega⟩ ?_ | refine VV.rem rfl ⟨by omega, by omega, by omega⟩ ?_ | refine VV.s rfl ?_  | refine VV.b (b_ltT (by omega) (by omega)) ?_ | refine VV.b (b_ltF (by omega) (by omega)) ?_ | refine VV.b (b_geT (by omega) (by omega)) ?_ | refine VV.b (b_geF (by omega) (by omega)) ?_ | refine VV.b (b_gtT (by omega) (by omega)) ?_ | refine VV.b (b_gtF (by omega) (by omega)) ?_ | refine VV.b (b_leT (by omega) (by omega)) ?_ | refine VV.b (b_leF (by omega) (by omega)) ?_ | refine VV.b (b_eqT (by omega) (by omega)) ?_ | refine VV.b (b_eqF (by omega) (by omega)) ?_ | refine VV.b (b_neT (by omega) (by omega)) ?_ | refine VV.b (b_neF (by omega) (by omega)) ?_)
    exact VV.r rfl q
  · show CC _ _ [.int (nI 118)] _ _
    refine CC.of rfl ?_
    repeat refine VV.s rfl ?_
    (refine VV.c rfl ?_; refine cl_digK (k := 8) hk ?_)
    show VV _ _ _ _ [.int (nI 1)] _ _
    repeat (first | refine VV.add rfl ?_ | refine VV.inc rfl rfl rfl ?_ | refine VV.mul rfl ?_ | refine VV.sub rfl (by omega) ?_ | refine VV.shl1 rfl (by omega) ?_ | refine VV.shl rfl ⟨by omega, by omega⟩ ?_ | refine VV.shr rfl ⟨by omega, by omega⟩ ?_ | refine VV.and rfl ?_ | refine VV.div rfl ⟨by omega, by omega, by omega⟩ ?_ | refine VV.rem rfl ⟨by omega, by omega, by omega⟩ ?_ | refine VV.s rfl ?_  | refine VV.b (b_ltT (by omega) (by omega)) ?_ | refine VV.b (b_ltF (by omega) (by omega)) ?_ | refine VV.b (b_geT (by omega) (by omega)) ?_ | refine VV.b (b_geF (by omega) (by omega)) ?_ | refine VV.b (b_gtT (by omega) (by omega)) ?_ | refine VV.b (b_gtF (by omega) (by omega)) ?_ | refine VV.b (b_leT (by omega) (by omega)) ?_ | refine VV.b (b_leF (by omega) (by omega)) ?_ | refine VV.b (b_eqT (by omega) (by omega)) ?_ | refine VV.b (b_eqF (by omega) (by omega)) ?_ | refine VV.b (b_neT (by omega) (by omega)) ?_ | refine VV.b (b_neF (by omega) (by omega)) ?_)
    exact VV.r rfl q
theorem kdig_c {k : Nat} (h : k < 9) : kdig k = 0 ∨ kdig k = 1 ∨ kdig k = 2 := by
  rcases kk9 h with rfl | rfl | rfl | rfl | rfl | rfl | rfl | rfl | rfl <;> decide
theorem cl_clause (ht : s.tm ≤ 100) (h : TX s τ A) (h3 : τ 3803 = nI p) (hp : p ≤ s.tm) {m : Nat} (hm : τ 4002 = nI m) (m12 : m < 12) (q0 : (pC s p).1 = false → ∀ τ', FP τ τ' → τ' 3803 = nI (pC s p).2.1 → Q (some (.int (nI 0))) (HH S τ' A B)) (q1 : (pC s p).1 = true → ∀ τ', FP τ τ' → τ' 3803 = nI (pC s p).2.1 → Q (some (.int (nI 1))) (HH S (up τ' 4002 (nI (m + 1))) (up A 41 (up (up (up (A 41) (3 * m) (nI (kcode (pC s p).2.2.1))) (3 * m + 1) (pC s p).2.2.2.1) (3 * m + 2) (pC s p).2.2.2.2)) B)) : CC (d + 3) M_Text_passClause [.ref 38] (HH S τ A B) Q := by
  have t84 : ∀ (τ1 : Nat → Int32) (x spot num : Int32) (l2 l4 : Option Value), FP τ τ1 → τ1 3804 = num → Q (some (.int (nI 1))) (HH S (up τ1 4002 (nI (m + 1))) (up A 41 (up (up (up (A 41) (3 * m) x) (3 * m + 1) spot) (3 * m + 2) num)) B) → VV (d + 3) M_Text_passClause 84 [some (.ref 38), some (.int x), l2, some (.int spot), l4] [] (HH S τ1 A B) Q := by
    intro τ1 x spot num l2 l4 f hnum q
    refine VV.s rfl ?_
    refine VV.s rfl ?_
    refine VV.s rfl ?_
    refine VV.s rfl ?_
    refine VV.s rfl ?_
    refine VV.gn rfl rfl rfl hnum ?_
    (refine VV.c rfl ?_; refine cr_add (o := 40) rfl ((f 4002 (by omega) (by omega)).trans hm) m12 ?_)
    repeat refine VV.s rfl ?_
    exact VV.r rfl q
  have t63 : ∀ (k p1 : Nat) (τ1 : Nat → Int32) (spot : Int32) (l2 l4 : Option Value), k < 9 → FP τ τ1 → τ1 3803 = nI p1 → p1 ≤ s.tm → pC s p = pE s k p1 spot → VV (d + 3) M_Text_passClause 63 [some (.ref 38), some (.int (nI (kcode k))), l2, some (.int spot), l4] [] (HH S τ1 A B) Q := by
    intro k p1 τ1 spot l2 l4 hk f h3 hp1 e
    rw [e] at q0 q1
    refine VV.s rfl ?_
    refine VV.s rfl ?_
    refine VV.p rfl rfl (show 4 < 5 by decide) rfl (wf_3804 _ _ _ _ _) ?_
    refine VV.s rfl ?_
    have f2 : FP τ (up τ1 3804 (nI 0)) := f.up4
    have h32 : up τ1 3804 (nI 0) 3803 = nI p1 := h3
    (refine VV.c rfl ?_; refine cl_hasNumber hk ?_)
    unfold pE at q0 q1
    cases c : kbare k with
    | true =>
      rw [if_pos c] at q0 q1
      show VV _ _ _ _ [.int (nI 0)] _ _
      have T := t84 (up τ1 3804 (nI 0)) (nI (kcode k)) spot (nI 0) l2 l4 f2 rfl (q1 rfl _ f2 h32)
      repeat (first | exact T | refine VV.add rfl ?_ | refine VV.inc rfl rfl rfl ?_ | refine VV.mul rfl ?_ | refine VV.sub rfl (by omega) ?_ | refine VV.shl1 rfl (by omega) ?_ | refine VV.shl rfl ⟨by omega, by omega⟩ ?_ | refine VV.shr rfl ⟨by omega, by omega⟩ ?_ | refine VV.and rfl ?_ | refine VV.div rfl ⟨by omega, by omega, by omega⟩ ?_ | refine VV.rem rfl ⟨by omega, by omega, by omega⟩ ?_ | refine VV.s rfl ?_  | refine VV.b (b_ltT (by omega) (by omega)) ?_ | refine VV.b (b_ltF (by omega) (by omega)) ?_ | refine VV.b (b_geT (by omega) (by omega)) ?_ | refine VV.b (b_geF (by omega) (by omega)) ?_ | refine VV.b (b_gtT (by omega) (by omega)) ?_ | refine VV.b (b_gtF (by omega) (by omega)) ?_ | refine VV.b (b_leT (by omega) (by omega)) ?_ | refine VV.b (b_leF (by omega) (by omega)) ?_ | refine VV.b (b_eqT (by omega) (by omega)) ?_ | refine VV.b (b_eqF (by omega) (by omega)) ?_ | refine VV.b (b_neT (by omega) (by omega)) ?_ | refine VV.b (b_neF (by omega) (by omega)) ?_)
    | false =>
      rw [if_neg (by rw [c]; exact Bool.false_ne_true)] at q0 q1
      show VV _ _ _ _ [.int (nI 1)] _ _
      repeat (first | refine VV.add rfl ?_ | refine VV.inc rfl rfl rfl ?_ | refine VV.mul rfl ?_ | refine VV.sub rfl (by omega) ?_ | refine VV.shl1 rfl (by omega) ?_ | refine VV.shl rfl ⟨by omega, by omega⟩ ?_ | refine VV.shr rfl ⟨by omega, by omega⟩ ?_ | refine VV.and rfl ?_ | refine VV.div rfl ⟨by omega, by omega, by omega⟩ ?_ | refine VV.rem rfl ⟨by omega, by omega, by omega⟩ ?_ | refine VV.s rfl ?_  | refine VV.b (b_ltT (by omega) (by omega)) ?_ | refine VV.b (b_ltF (by omega) (by omega)) ?_ | refine VV.b (b_geT (by omega) (by omega)) ?_ | refine VV.b (b_geF (by omega) (by omega)) ?_ | refine VV.b (b_gtT (by omega) (by omega)) ?_ | refine VV.b (b_gtF (by omega) (by omega)) ?_ | refine VV.b (b_leT (by omega) (by omega)) ?_ | refine VV.b (b_leF (by omega) (by omega)) ?_ | refine VV.b (b_eqT (by omega) (by omega)) ?_ | refine VV.b (b_eqF (by omega) (by omega)) ?_ | refine VV.b (b_neT (by omega) (by omega)) ?_ | refine VV.b (b_neF (by omega) (by omega)) ?_)
      (refine VV.c rfl ?_; refine cl_passNumber ht (h.fp f2) h32 hp1 (fun τ2 f3 e3 e4 => ?_))
      cases c2 : (pN s p1).1 with
      | false =>
        show VV _ _ _ _ [.int (nI 0)] _ _
        repeat (first | refine VV.add rfl ?_ | refine VV.inc rfl rfl rfl ?_ | refine VV.mul rfl ?_ | refine VV.sub rfl (by omega) ?_ | refine VV.shl1 rfl (by omega) ?_ | refine VV.shl rfl ⟨by omega, by omega⟩ ?_ | refine VV.shr rfl ⟨by omega, by omega⟩ ?_ | refine VV.and rfl ?_ | refine VV.div rfl ⟨by omega, by omega, by omega⟩ ?_ | refine VV.rem rfl ⟨by omega, by omega, by omega⟩ ?_ | refine VV.s rfl ?_  | refine VV.b (b_ltT (by omega) (by omega)) ?_ | refine VV.b (b_ltF (by omega) (by omega)) ?_ | refine VV.b (b_geT (by omega) (by omega)) ?_ | refine VV.b (b_geF (by omega) (by omega)) ?_ | refine VV.b (b_gtT (by omega) (by omega)) ?_ | refine VV.b (b_gtF (by omega) (by omega)) ?_ | refine VV.b (b_leT (by omega) (by omega)) ?_ | refine VV.b (b_leF (by omega) (by omega)) ?_ | refine VV.b (b_eqT (by omega) (by omega)) ?_ | refine VV.b (b_eqF (by omega) (by omega)) ?_ | refine VV.b (b_neT (by omega) (by omega)) ?_ | refine VV.b (b_neF (by omega) (by omega)) ?_)
        exact VV.r rfl (q0 c2 τ2 (f2.trans f3) e3)
      | true =>
        show VV _ _ _ _ [.int (nI 1)] _ _
        have T := t84 τ2 (nI (kcode k)) spot _ l2 l4 (f2.trans f3) (e4 c2) (q1 c2 τ2 (f2.trans f3) e3)
        repeat (first | exact T | refine VV.add rfl ?_ | refine VV.inc rfl rfl rfl ?_ | refine VV.mul rfl ?_ | refine VV.sub rfl (by omega) ?_ | refine VV.shl1 rfl (by omega) ?_ | refine VV.shl rfl ⟨by omega, by omega⟩ ?_ | refine VV.shr rfl ⟨by omega, by omega⟩ ?_ | refine VV.and rfl ?_ | refine VV.div rfl ⟨by omega, by omega, by omega⟩ ?_ | refine VV.rem rfl ⟨by omega, by omega, by omega⟩ ?_ | refine VV.s rfl ?_  | refine VV.b (b_ltT (by omega) (by omega)) ?_ | refine VV.b (b_ltF (by omega) (by omega)) ?_ | refine VV.b (b_geT (by omega) (by omega)) ?_ | refine VV.b (b_geF (by omega) (by omega)) ?_ | refine VV.b (b_gtT (by omega) (by omega)) ?_ | refine VV.b (b_gtF (by omega) (by omega)) ?_ | refine VV.b (b_leT (by omega) (by omega)) ?_ | refine VV.b (b_leF (by omega) (by omega)) ?_ | refine VV.b (b_eqT (by omega) (by omega)) ?_ | refine VV.b (b_eqF (by omega) (by omega)) ?_ | refine VV.b (b_neT (by omega) (by omega)) ?_ | refine VV.b (b_neF (by omega) (by omega)) ?_)
  have t32 : ∀ (x1 : Value) (j D pj : Nat) (x : Int32) (τ1 : Nat → Int32), j < D → D ≤ 2 → pj ≤ 110 → FP τ τ1 → τ1 3803 = nI pj → (dg (hr s pj) = false → Q (some (.int (nI 0))) (HH S τ1 A B)) → (dg (hr s pj) = true → VV (d + 3) M_Text_passClause 32 [some (.ref 38), some x1, some (.int (nI D)), some (.int (nI 10 * x + dv (hr s pj))), some (.int (nI (j + 1)))] [] (HH S (up τ1 3803 (nI (pj + 1))) A B) Q) → VV (d + 3) M_Text_passClause 32 [some (.ref 38), some x1, some (.int (nI D)), some (.int x), some (.int (nI j))] [] (HH S τ1 A B) Q := by
    intro x1 j D pj x τ1 hj hD hpj f h3 q0 q1
    refine VV.s rfl ?_
    refine VV.s rfl ?_
    refine VV.s rfl ?_
    refine VV.b (b_geF (by omega) (by omega)) ?_
    refine VV.s rfl ?_
    (refine VV.c rfl ?_; refine cl_isDigit ht (h.fp f) h3 hpj ?_)
    cases c : dg (hr s pj) with
    | false =>
      show VV _ _ _ _ [.int (nI 0)] _ _
      repeat (first | refine VV.add rfl ?_ | refine VV.inc rfl rfl rfl ?_ | refine VV.mul rfl ?_ | refine VV.sub rfl (by omega) ?_ | refine VV.shl1 rfl (by omega) ?_ | refine VV.shl rfl ⟨by omega, by omega⟩ ?_ | refine VV.shr rfl ⟨by omega, by omega⟩ ?_ | refine VV.and rfl ?_ | refine VV.div rfl ⟨by omega, by omega, by omega⟩ ?_ | refine VV.rem rfl ⟨by omega, by omega, by omega⟩ ?_ | refine VV.s rfl ?_  | refine VV.b (b_ltT (by omega) (by omega)) ?_ | refine VV.b (b_ltF (by omega) (by omega)) ?_ | refine VV.b (b_geT (by omega) (by omega)) ?_ | refine VV.b (b_geF (by omega) (by omega)) ?_ | refine VV.b (b_gtT (by omega) (by omega)) ?_ | refine VV.b (b_gtF (by omega) (by omega)) ?_ | refine VV.b (b_leT (by omega) (by omega)) ?_ | refine VV.b (b_leF (by omega) (by omega)) ?_ | refine VV.b (b_eqT (by omega) (by omega)) ?_ | refine VV.b (b_eqF (by omega) (by omega)) ?_ | refine VV.b (b_neT (by omega) (by omega)) ?_ | refine VV.b (b_neF (by omega) (by omega)) ?_)
      exact VV.r rfl (q0 c)
    | true =>
      have q1 := q1 c
      show VV _ _ _ _ [.int (nI 1)] _ _
      refine VV.s rfl ?_
      refine VV.b (b_neT (a := 1) (b := 0) (by omega) (by omega)) ?_
      refine VV.s rfl ?_
      refine VV.s rfl ?_
      refine VV.s rfl ?_
      refine VV.s rfl ?_
      (refine VV.c rfl ?_; refine cl_passDigit ht (h.fp f) h3 hpj ?_)
      refine VV.s rfl ?_
      refine VV.s rfl ?_
      refine VV.inc rfl rfl rfl ?_
      repeat (first | exact q1 | refine VV.s rfl ?_)
  refine CC.of rfl ?_
  repeat refine VV.s rfl ?_
  (refine VV.c rfl ?_; refine cl_sign ht h h3 (by omega) ?_)
  refine VV.s rfl ?_
  refine VV.s rfl ?_
  by_cases c : kOf (hr s p) = 9
  · have e : pC s p = (false, p, 0, 0, 0) := by
      unfold pC
      rw [if_pos c]
    rw [e] at q0
    (refine VV.c rfl ?_; refine cl_dig9 c ?_)
    refine VV.s rfl ?_
    refine VV.s rfl ?_
    refine VV.s rfl ?_
    refine VV.s rfl ?_
    repeat refine VV.s rfl ?_
    exact VV.r rfl (q0 rfl τ FP.refl h3)
  · obtain ⟨hk, ek⟩ := kOf_k c
    have e : pC s p = pK s (kOf (hr s p)) p := by
      unfold pC
      rw [if_neg c]
    have p0 : p < s.tm := hr_e ek (kc_ne hk)
    rw [ek]
    generalize kOf (hr s p) = k at hk e ⊢
    have go : VV (d + 3) M_Text_passClause 32 [some (.ref 38), some (.int (nI (kcode k))), some (.int (nI (kdig k))), some (.int (nI 0)), some (.int (nI 0))] [] (HH S (up τ 3803 (nI (p + 1))) A B) Q := by
      have f1 : FP τ (up τ 3803 (nI (p + 1))) := FP.refl.up3
      rcases kdig_c hk with z | z | z
      · rw [z]
        have T := t63 k (p + 1) (up τ 3803 (nI (p + 1))) (nI 0) (some (.int (nI 0))) (some (.int (nI 0))) hk f1 (up_s _ _ _) p0 (by rw [e]; unfold pK; rw [if_pos z])
        repeat (first | exact T | refine VV.add rfl ?_ | refine VV.inc rfl rfl rfl ?_ | refine VV.mul rfl ?_ | refine VV.sub rfl (by omega) ?_ | refine VV.shl1 rfl (by omega) ?_ | refine VV.shl rfl ⟨by omega, by omega⟩ ?_ | refine VV.shr rfl ⟨by omega, by omega⟩ ?_ | refine VV.and rfl ?_ | refine VV.div rfl ⟨by omega, by omega, by omega⟩ ?_ | refine VV.rem rfl ⟨by omega, by omega, by omega⟩ ?_ | refine VV.s rfl ?_  | refine VV.b (b_ltT (by omega) (by omega)) ?_ | refine VV.b (b_ltF (by omega) (by omega)) ?_ | refine VV.b (b_geT (by omega) (by omega)) ?_ | refine VV.b (b_geF (by omega) (by omega)) ?_ | refine VV.b (b_gtT (by omega) (by omega)) ?_ | refine VV.b (b_gtF (by omega) (by omega)) ?_ | refine VV.b (b_leT (by omega) (by omega)) ?_ | refine VV.b (b_leF (by omega) (by omega)) ?_ | refine VV.b (b_eqT (by omega) (by omega)) ?_ | refine VV.b (b_eqF (by omega) (by omega)) ?_ | refine VV.b (b_neT (by omega) (by omega)) ?_ | refine VV.b (b_neF (by omega) (by omega)) ?_)
      · rw [z]
        have e1 : pC s p = if dg (hr s (p + 1)) = true then pE s k (p + 2) (dv (hr s (p + 1))) else (false, p + 1, 0, 0, 0) := by
          rw [e]
          unfold pK
          rw [if_neg (by rw [z]; decide), if_pos z]
        refine t32 _ 0 1 (p + 1) (nI 0) _ (by omega) (by omega) (by omega) f1 (up_s _ _ _) (fun c1 => ?_) (fun c1 => ?_)
        · rw [e1, if_neg (by rw [c1]; exact Bool.false_ne_true)] at q0
          exact q0 rfl _ f1 (up_s _ _ _)
        · rw [if_pos c1] at e1
          rw [ten0]
          have T := t63 k (p + 2) (up (up τ 3803 (nI (p + 1))) 3803 (nI (p + 1 + 1))) (dv (hr s (p + 1))) (some (.int (nI 1))) (some (.int (nI (0 + 1)))) hk f1.up3 (up_s _ _ _) (hr_dg c1) e1
          repeat (first | exact T | refine VV.add rfl ?_ | refine VV.inc rfl rfl rfl ?_ | refine VV.mul rfl ?_ | refine VV.sub rfl (by omega) ?_ | refine VV.shl1 rfl (by omega) ?_ | refine VV.shl rfl ⟨by omega, by omega⟩ ?_ | refine VV.shr rfl ⟨by omega, by omega⟩ ?_ | refine VV.and rfl ?_ | refine VV.div rfl ⟨by omega, by omega, by omega⟩ ?_ | refine VV.rem rfl ⟨by omega, by omega, by omega⟩ ?_ | refine VV.s rfl ?_  | refine VV.b (b_ltT (by omega) (by omega)) ?_ | refine VV.b (b_ltF (by omega) (by omega)) ?_ | refine VV.b (b_geT (by omega) (by omega)) ?_ | refine VV.b (b_geF (by omega) (by omega)) ?_ | refine VV.b (b_gtT (by omega) (by omega)) ?_ | refine VV.b (b_gtF (by omega) (by omega)) ?_ | refine VV.b (b_leT (by omega) (by omega)) ?_ | refine VV.b (b_leF (by omega) (by omega)) ?_ | refine VV.b (b_eqT (by omega) (by omega)) ?_ | refine VV.b (b_eqF (by omega) (by omega)) ?_ | refine VV.b (b_neT (by omega) (by omega)) ?_ | refine VV.b (b_neF (by omega) (by omega)) ?_)
      · rw [z]
        have e1 : pC s p = if dg (hr s (p + 1)) = true then (if dg (hr s (p + 2)) = true then pE s k (p + 3) (nI 10 * dv (hr s (p + 1)) + dv (hr s (p + 2))) else (false, p + 2, 0, 0, 0)) else (false, p + 1, 0, 0, 0) := by
          rw [e]
          unfold pK
          rw [if_neg (by rw [z]; decide), if_neg (show ¬ kdig k = 1 by rw [z]; decide)]
        refine t32 _ 0 2 (p + 1) (nI 0) _ (by omega) (by omega) (by omega) f1 (up_s _ _ _) (fun c1 => ?_) (fun c1 => ?_)
        · rw [e1, if_neg (by rw [c1]; exact Bool.false_ne_true)] at q0
          exact q0 rfl _ f1 (up_s _ _ _)
        · rw [if_pos c1] at e1
          rw [ten0]
          have p1 := hr_dg c1
          refine t32 _ 1 2 (p + 2) (dv (hr s (p + 1))) (up (up τ 3803 (nI (p + 1))) 3803 (nI (p + 1 + 1))) (by omega) (by omega) (by omega) f1.up3 (up_s _ _ _) (fun c2 => ?_) (fun c2 => ?_)
          · rw [e1, if_neg (by rw [c2]; exact Bool.false_ne_true)] at q0
            exact q0 rfl _ f1.up3 (up_s _ _ _)
          · rw [if_pos c2] at e1
            have T := t63 k (p + 3) (up (up (up τ 3803 (nI (p + 1))) 3803 (nI (p + 1 + 1))) 3803 (nI (p + 2 + 1))) (nI 10 * dv (hr s (p + 1)) + dv (hr s (p + 2))) (some (.int (nI 2))) (some (.int (nI (1 + 1)))) hk f1.up3.up3 (up_s _ _ _) (hr_dg c2) e1
            repeat (first | exact T | refine VV.add rfl ?_ | refine VV.inc rfl rfl rfl ?_ | refine VV.mul rfl ?_ | refine VV.sub rfl (by omega) ?_ | refine VV.shl1 rfl (by omega) ?_ | refine VV.shl rfl ⟨by omega, by omega⟩ ?_ | refine VV.shr rfl ⟨by omega, by omega⟩ ?_ | refine VV.and rfl ?_ | refine VV.div rfl ⟨by omega, by omega, by omega⟩ ?_ | refine VV.rem rfl ⟨by omega, by omega, by omega⟩ ?_ | refine VV.s rfl ?_  | refine VV.b (b_ltT (by omega) (by omega)) ?_ | refine VV.b (b_ltF (by omega) (by omega)) ?_ | refine VV.b (b_geT (by omega) (by omega)) ?_ | refine VV.b (b_geF (by omega) (by omega)) ?_ | refine VV.b (b_gtT (by omega) (by omega)) ?_ | refine VV.b (b_gtF (by omega) (by omega)) ?_ | refine VV.b (b_leT (by omega) (by omega)) ?_ | refine VV.b (b_leF (by omega) (by omega)) ?_ | refine VV.b (b_eqT (by omega) (by omega)) ?_ | refine VV.b (b_eqF (by omega) (by omega)) ?_ | refine VV.b (b_neT (by omega) (by omega)) ?_ | refine VV.b (b_neF (by omega) (by omega)) ?_)
    (refine VV.c rfl ?_; refine cl_digK hk ?_)
    refine VV.s rfl ?_
    refine VV.s rfl ?_
    refine VV.s rfl ?_
    refine VV.s rfl ?_
    refine VV.i (fun w => ?_) (fun _ => ?_)
    · rcases kdig_c hk with z | z | z <;> rw [z] at w <;> exact absurd w (by decide)
    repeat (first | exact go | refine VV.gn rfl rfl rfl (h3) ?_ | refine VV.p rfl rfl (show 3 < 5 by decide) rfl (wf_3803 _ _ _ _ _) ?_  | refine VV.add rfl ?_ | refine VV.inc rfl rfl rfl ?_ | refine VV.mul rfl ?_ | refine VV.sub rfl (by omega) ?_ | refine VV.shl1 rfl (by omega) ?_ | refine VV.shl rfl ⟨by omega, by omega⟩ ?_ | refine VV.shr rfl ⟨by omega, by omega⟩ ?_ | refine VV.and rfl ?_ | refine VV.div rfl ⟨by omega, by omega, by omega⟩ ?_ | refine VV.rem rfl ⟨by omega, by omega, by omega⟩ ?_ | refine VV.s rfl ?_  | refine VV.b (b_ltT (by omega) (by omega)) ?_ | refine VV.b (b_ltF (by omega) (by omega)) ?_ | refine VV.b (b_geT (by omega) (by omega)) ?_ | refine VV.b (b_geF (by omega) (by omega)) ?_ | refine VV.b (b_gtT (by omega) (by omega)) ?_ | refine VV.b (b_gtF (by omega) (by omega)) ?_ | refine VV.b (b_leT (by omega) (by omega)) ?_ | refine VV.b (b_leF (by omega) (by omega)) ?_ | refine VV.b (b_eqT (by omega) (by omega)) ?_ | refine VV.b (b_eqF (by omega) (by omega)) ?_ | refine VV.b (b_neT (by omega) (by omega)) ?_ | refine VV.b (b_neF (by omega) (by omega)) ?_)
/-- rows from m on -/
def RC (a : Nat → Int32) (m : Nat) (l : List Rw) : Prop := ∀ j x, l[j]? = some x → a (3 * (m + j)) = nI (kcode x.1) ∧ a (3 * (m + j) + 1) = x.2.1 ∧ a (3 * (m + j) + 2) = x.2.2
theorem RC.nil {a : Nat → Int32} {m : Nat} : RC a m [] := fun j x e => by rw [List.getElem?_nil] at e; cases e
theorem RC.cons {a : Nat → Int32} {m : Nat} {x : Rw} {l : List Rw} (h : a (3 * m) = nI (kcode x.1) ∧ a (3 * m + 1) = x.2.1 ∧ a (3 * m + 2) = x.2.2) (g : RC a (m + 1) l) : RC a m (x :: l) := by
  intro j y e
  cases j with
  | zero => cases e; exact h
  | succ j =>
    have := g j y e
    rw [show m + 1 + j = m + (j + 1) by omega] at this
    exact this
theorem RC.hd {a : Nat → Int32} {m : Nat} {x : Rw} {l : List Rw} (h : RC a m (x :: l)) : a (3 * m) = nI (kcode x.1) ∧ a (3 * m + 1) = x.2.1 ∧ a (3 * m + 2) = x.2.2 := h 0 x rfl
theorem RC.tl {a : Nat → Int32} {m : Nat} {x : Rw} {l : List Rw} (h : RC a m (x :: l)) : RC a (m + 1) l := by
  intro j y e
  have := h (j + 1) y e
  rw [show m + (j + 1) = m + 1 + j by omega] at this
  exact this
def FT (τ : Nat → Int32) (A : Nat → Nat → Int32) (τ' : Nat → Int32) (A' : Nat → Nat → Int32) : Prop := (∀ k, k ≠ 3803 → k ≠ 3804 → k ≠ 4002 → τ' k = τ k) ∧ ∀ k, k ≠ 41 → A' k = A k
theorem FT.refl : FT τ A τ A := ⟨fun _ _ _ _ => rfl, fun _ _ => rfl⟩
theorem FT.fp {τ' τ'' : Nat → Int32} {A' : Nat → Nat → Int32} (h : FT τ A τ' A') (g : FP τ' τ'') : FT τ A τ'' A' := ⟨fun k a b c => (g k a b).trans (h.1 k a b c), h.2⟩
theorem FT.u2 {τ' : Nat → Int32} {A' : Nat → Nat → Int32} {x : Int32} (h : FT τ A τ' A') : FT τ A (up τ' 4002 x) A' := ⟨fun k a b c => (up_n c).trans (h.1 k a b c), h.2⟩
theorem FT.u3 {τ' : Nat → Int32} {A' : Nat → Nat → Int32} {x : Int32} (h : FT τ A τ' A') : FT τ A (up τ' 3803 x) A' := ⟨fun k a b c => (up_n a).trans (h.1 k a b c), h.2⟩
theorem FT.a {τ' : Nat → Int32} {A' : Nat → Nat → Int32} {x : Nat → Int32} (h : FT τ A τ' A') : FT τ A τ' (up A' 41 x) := ⟨h.1, fun k c => (up_n c).trans (h.2 k c)⟩
theorem FT.trans {τ' τ'' : Nat → Int32} {A' A'' : Nat → Nat → Int32} (h : FT τ A τ' A') (g : FT τ' A' τ'' A'') : FT τ A τ'' A'' := ⟨fun k a b c => (g.1 k a b c).trans (h.1 k a b c), fun k c => (g.2 k c).trans (h.2 k c)⟩
theorem TX.ft {τ' : Nat → Int32} {A' : Nat → Nat → Int32} (h : TX s τ A) (f : FT τ A τ' A') : TX s τ' A' := ⟨(f.1 3802 (by omega) (by omega) (by omega)).trans h.1, fun k hk => by rw [f.2 39 (by omega)]; exact h.2 k hk⟩
theorem RX.ft {τ' : Nat → Int32} {A' : Nat → Nat → Int32} (h : RX s τ A B) (f : FT τ A τ' A') : RX s τ' A' B :=
  RX.mk (h.now.fr (fun k hk => f.1 _ (by omega) (by omega) (by omega)) (fun k hk => f.2 _ (by omega)) (fun _ _ => rfl) (by omega)) (fun e => by rw [f.1 _ (by omega) (by omega) (by omega)]; exact h.im0 e) (fun c e => ⟨by rw [f.1 _ (by omega) (by omega) (by omega)]; exact (h.im1 c e).1, (h.im1 c e).2.fr (fun k hk => f.1 _ (by omega) (by omega) (by omega)) (fun k hk => f.2 _ (by omega)) (fun _ _ => rfl) (by omega)⟩) (by rw [f.1 _ (by omega) (by omega) (by omega)]; exact h.th) (fun k hk => by rw [f.2 _ (by omega)]; exact h.tx k hk) (fun t h6 => by rw [f.1 _ (by omega) (by omega) (by omega)]; exact h.ts t h6) (fun t h6 => by rw [f.1 _ (by omega) (by omega) (by omega)]; exact h.tl t h6) h.ti
theorem FT.fx {τ' : Nat → Int32} {A' : Nat → Nat → Int32} (f : FT τ A τ' A') : FX τ A B τ' A' B := ⟨fun k hk => f.1 k (by omega) (by omega) (by omega), fun k hk => f.2 k (by omega), fun _ _ => rfl⟩
theorem cl_ff (ht : s.tm ≤ 100) : ∀ (r p m : Nat) (τ : Nat → Int32) (A : Nat → Nat → Int32), m + r = 12 → 1 ≤ r → p ≤ s.tm → TX s τ A → τ 3803 = nI p → τ 4002 = nI m → (∀ f τ' A', (pT s r p).1 = some f → FT τ A τ' A' → Q (some (.int (nI f))) (HH S τ' A' B)) → (∀ τ' A', (pT s r p).1 = none → FT τ A τ' A' → τ' 4002 = nI (m + (pT s r p).2.length) → RC (A' 41) m (pT s r p).2 → (∀ k, k < 3 * m → A' 41 k = A 41 k) → Q (some (.int (-(nI 5)))) (HH S τ' A' B)) → VV (d + 4) M_Text_findFault 14 [some (.ref 38), some (.int (nI (m + 1)))] [] (HH S τ A B) Q := by
  intro r
  induction r with
  | zero => intro p m τ A _ h1; exact absurd h1 (by omega)
  | succ r ih =>
    intro p m τ A hmr _ hp h h3 hm q0 q1
    have le := pC_le hp
    rw [pT] at q0 q1
    refine VV.s rfl ?_
    refine VV.s rfl ?_
    refine VV.s rfl ?_
    refine VV.b (b_gtF (by omega) (by omega)) ?_
    refine VV.s rfl ?_
    (refine VV.c rfl ?_; refine cl_clause ht h h3 hp hm (by omega) (fun c1 τ1 f1 e1 => ?_) (fun c1 τ1 f1 e1 => ?_))
    · rw [if_neg (by rw [c1]; exact Bool.false_ne_true)] at q0
      show VV _ _ _ _ [.int (nI 0)] _ _
      refine VV.s rfl ?_
      refine VV.b (b_neF (a := 0) (b := 0) rfl (by omega)) ?_
      refine VV.s rfl ?_
      refine VV.gn rfl rfl rfl e1 ?_
      exact VV.r rfl (q0 _ τ1 A rfl (FT.refl.fp f1))
    · rw [if_pos c1] at q0 q1
      have f2 : FT τ A (up τ1 4002 (nI (m + 1))) (up A 41 (up (up (up (A 41) (3 * m) (nI (kcode (pC s p).2.2.1))) (3 * m + 1) (pC s p).2.2.2.1) (3 * m + 2) (pC s p).2.2.2.2)) := (FT.refl.fp f1).u2.a
      have hrow : ∀ a : Nat → Int32, (∀ k, k < 3 * (m + 1) → a k = up (up (up (A 41) (3 * m) (nI (kcode (pC s p).2.2.1))) (3 * m + 1) (pC s p).2.2.2.1) (3 * m + 2) (pC s p).2.2.2.2 k) → a (3 * m) = nI (kcode (pC s p).2.2.1) ∧ a (3 * m + 1) = (pC s p).2.2.2.1 ∧ a (3 * m + 2) = (pC s p).2.2.2.2 := by
        intro a ha
        refine ⟨?_, ?_, ?_⟩
        · rw [ha _ (by omega), up_n (by omega), up_n (by omega), up_s]
        · rw [ha _ (by omega), up_n (by omega), up_s]
        · rw [ha _ (by omega), up_s]
      have hlow : ∀ k, k < 3 * m → up (up (up (A 41) (3 * m) (nI (kcode (pC s p).2.2.1))) (3 * m + 1) (pC s p).2.2.2.1) (3 * m + 2) (pC s p).2.2.2.2 k = A 41 k := by
        intro k hk
        rw [up_n (by omega), up_n (by omega), up_n (by omega)]
      have t2 : up τ1 4002 (nI (m + 1)) 3802 = nI s.tm := (f1 3802 (by omega) (by omega)).trans h.1
      have t3 : up τ1 4002 (nI (m + 1)) 3803 = nI (pC s p).2.1 := e1
      show VV _ _ _ _ [.int (nI 1)] _ _
      refine VV.s rfl ?_
      refine VV.b (b_neT (a := 1) (b := 0) (by omega) (by omega)) ?_
      refine VV.s rfl ?_
      refine VV.gn rfl rfl rfl t3 ?_
      refine VV.s rfl ?_
      refine VV.gn rfl rfl rfl t2 ?_
      by_cases c2 : (pC s p).2.1 = s.tm
      · rw [if_pos c2] at q1
        refine VV.s rfl ?_
        refine VV.b (b_neF (by omega) (by omega)) ?_
        repeat refine VV.s rfl ?_
        exact VV.r rfl (q1 _ _ rfl f2 (up_s _ _ _) (RC.cons (hrow _ (fun k _ => rfl)) RC.nil) hlow)
      · rw [if_neg c2] at q0 q1
        refine VV.s rfl ?_
        refine VV.b (b_neT (by omega) (by omega)) ?_
        refine VV.s rfl ?_
        refine VV.s rfl ?_
        refine VV.s rfl ?_
        by_cases c3 : r = 0
        · rw [if_pos (Or.inl c3)] at q0
          refine VV.b (b_eqT (by omega) (by omega)) ?_
          refine VV.s rfl ?_
          refine VV.gn rfl rfl rfl t3 ?_
          exact VV.r rfl (q0 _ _ _ rfl f2)
        · refine VV.b (b_eqF (by omega) (by omega)) ?_
          refine VV.s rfl ?_
          refine VV.s rfl ?_
          (refine VV.c rfl ?_; refine cl_pass (p := (pC s p).2.1) ht (h.ft f2) t3 (by omega) (fun c4 => ?_) (fun c4 => ?_))
          · rw [if_neg (fun z => z.elim c3 (fun w => w c4))] at q0 q1
            have p1 : (pC s p).2.1 < s.tm := hr_e c4 (by decide)
            show VV _ _ _ _ [.int (nI 1)] _ _
            refine VV.s rfl ?_
            refine VV.b (b_neT (a := 1) (b := 0) (by omega) (by omega)) ?_
            refine VV.inc rfl rfl rfl ?_
            refine VV.s rfl ?_
            refine ih ((pC s p).2.1 + 1) (m + 1) _ _ (by omega) (by omega) p1 (h.ft f2.u3) rfl rfl (fun f τ' A' e f3 => q0 f τ' A' e (f2.u3.trans f3)) (fun τ' A' e f3 e4 rc low => q1 τ' A' e (f2.u3.trans f3) (by rw [e4, List.length_cons]; congr 1; omega) (RC.cons (hrow _ low) rc) (fun k hk => (low k (by omega)).trans (hlow k hk)))
          · rw [if_pos (Or.inr c4)] at q0
            show VV _ _ _ _ [.int (nI 0)] _ _
            refine VV.s rfl ?_
            refine VV.b (b_neF (a := 0) (b := 0) rfl (by omega)) ?_
            refine VV.s rfl ?_
            refine VV.gn rfl rfl rfl t3 ?_
            exact VV.r rfl (q0 _ _ _ rfl f2)
end TXT
section XR
variable {d : Nat}
theorem cx_do (S : Cl) (τ : Nat → Int32) (A : Nat → Nat → Int32) (B : Nat → Nat → Int64) {s : St} (i : IV s) {x : Rw} (hk : x.1 < 9) {Q : Option Value → Hp → Prop} (h : RX s τ A B) (q : ∀ τ' A' B', RX (oDo x s).2 τ' A' B' → FN τ A B τ' A' B' → Q (some (.int (oDo x s).1)) (HH S τ' A' B')) : CC (d + 6) M_T_doClause [.ref 1, .int (nI (kcode x.1)), .int x.2.1, .int x.2.2] (HH S τ A B) Q := by
  obtain ⟨k, u, v⟩ := x
  show CC (d + 6) M_T_doClause [.ref 1, .int (nI (kcode k)), .int u, .int v] (HH S τ A B) Q
  have hk : k < 9 := hk
  rcases kk9 hk with rfl | rfl | rfl | rfl | rfl | rfl | rfl | rfl | rfl
  · refine CC.of rfl ?_
    refine VV.s rfl ?_
    refine VV.s rfl ?_
    repeat (refine VV.sw (fun e => absurd e (by decide)) (fun _ => ?_))
    refine VV.sw (fun _ => ?_) (fun e => absurd rfl e)
    repeat refine VV.s rfl ?_
    refine VV.c rfl (y_size i S τ A B _ h (fun τ' A' B' h' f => ?_))
    exact VV.r rfl (q τ' A' B' h' f)
  · refine CC.of rfl ?_
    refine VV.s rfl ?_
    refine VV.s rfl ?_
    repeat (refine VV.sw (fun e => absurd e (by decide)) (fun _ => ?_))
    refine VV.sw (fun _ => ?_) (fun e => absurd rfl e)
    repeat refine VV.s rfl ?_
    refine VV.c rfl (y_set i S τ A B _ h (fun τ' A' B' h' f => ?_))
    exact VV.r rfl (q τ' A' B' h' f)
  · refine CC.of rfl ?_
    refine VV.s rfl ?_
    refine VV.s rfl ?_
    repeat (refine VV.sw (fun e => absurd e (by decide)) (fun _ => ?_))
    refine VV.sw (fun _ => ?_) (fun e => absurd rfl e)
    repeat refine VV.s rfl ?_
    refine VV.c rfl (y_chip i S τ A B _ h (fun τ' A' B' h' f => ?_))
    exact VV.r rfl (q τ' A' B' h' f)
  · refine CC.of rfl ?_
    refine VV.s rfl ?_
    refine VV.s rfl ?_
    repeat (refine VV.sw (fun e => absurd e (by decide)) (fun _ => ?_))
    refine VV.sw (fun _ => ?_) (fun e => absurd rfl e)
    repeat refine VV.s rfl ?_
    refine VV.c rfl (y_chip i S τ A B _ h (fun τ' A' B' h' f => ?_))
    exact VV.r rfl (q τ' A' B' h' f)
  · refine CC.of rfl ?_
    refine VV.s rfl ?_
    refine VV.s rfl ?_
    repeat (refine VV.sw (fun e => absurd e (by decide)) (fun _ => ?_))
    refine VV.sw (fun _ => ?_) (fun e => absurd rfl e)
    repeat refine VV.s rfl ?_
    refine VV.c rfl (y_chip i S τ A B _ h (fun τ' A' B' h' f => ?_))
    exact VV.r rfl (q τ' A' B' h' f)
  · refine CC.of rfl ?_
    refine VV.s rfl ?_
    refine VV.s rfl ?_
    repeat (refine VV.sw (fun e => absurd e (by decide)) (fun _ => ?_))
    refine VV.sw (fun _ => ?_) (fun e => absurd rfl e)
    repeat refine VV.s rfl ?_
    refine VV.c rfl (y_clear i S τ A B _ h (fun τ' A' B' h' f => ?_))
    exact VV.r rfl (q τ' A' B' h' f)
  · refine CC.of rfl ?_
    refine VV.s rfl ?_
    refine VV.s rfl ?_
    repeat (refine VV.sw (fun e => absurd e (by decide)) (fun _ => ?_))
    refine VV.sw (fun _ => ?_) (fun e => absurd rfl e)
    repeat refine VV.s rfl ?_
    refine VV.c rfl (y_take i S τ A B _ h (fun τ' A' B' h' f => ?_))
    exact VV.r rfl (q τ' A' B' h' f)
  · refine CC.of rfl ?_
    refine VV.s rfl ?_
    refine VV.s rfl ?_
    repeat (refine VV.sw (fun e => absurd e (by decide)) (fun _ => ?_))
    refine VV.sw (fun _ => ?_) (fun e => absurd rfl e)
    repeat refine VV.s rfl ?_
    refine VV.c rfl (y_flip i S τ A B _ h (fun τ' A' B' h' f => ?_))
    exact VV.r rfl (q τ' A' B' h' f)
  · refine CC.of rfl ?_
    refine VV.s rfl ?_
    refine VV.s rfl ?_
    repeat (refine VV.sw (fun e => absurd e (by decide)) (fun _ => ?_))
    refine VV.sw (fun _ => ?_) (fun e => absurd rfl e)
    repeat refine VV.s rfl ?_
    refine VV.c rfl (y_vector i S τ A B _ h (fun τ' A' B' h' f => ?_))
    exact VV.r rfl (q τ' A' B' h' f)
theorem cx_run (S : Cl) {Q : Option Value → Hp → Prop} (N : Nat) (hN : N ≤ 12) (l1 : Option Value) : ∀ (l : List Rw) (k m : Nat) (s : St) (τ : Nat → Int32) (A : Nat → Nat → Int32) (B : Nat → Nat → Int64), k + l.length = N → m ≤ k → IV s → RX s τ A B → RC (A 41) k l → (∀ x, x ∈ l → x.1 < 9) → τ 4002 = nI N → (∀ τ' A' B', RX (oRun l m s).2 τ' A' B' → FX τ A B τ' A' B' → Q (some (.int (nI (oRun l m s).1))) (HH S τ' A' B')) → VV (d + 7) M_T_read 45 [some (.ref 1), l1, some (.ref 40), some (.int (nI N)), some (.int (nI m)), some (.int (nI k))] [] (HH S τ A B) Q := by
  intro l
  induction l with
  | nil =>
    intro k m s τ A B hk _ i h _ _ _ q
    have hk : k = N := by rw [List.length_nil] at hk; omega
    subst hk
    refine VV.s rfl ?_
    refine VV.s rfl ?_
    refine VV.s rfl ?_
    refine VV.b (b_geT (by omega) (by omega)) ?_
    repeat refine VV.s rfl ?_
    exact VV.r rfl (q τ A B h FX.refl)
  | cons x l ih =>
    intro k m s τ A B hk hm i h rc hl h4 q
    rw [List.length_cons] at hk
    obtain ⟨e0, e1, e2⟩ := rc.hd
    refine VV.s rfl ?_
    refine VV.s rfl ?_
    refine VV.s rfl ?_
    refine VV.b (b_geF (by omega) (by omega)) ?_
    repeat refine VV.s rfl ?_
    (refine VV.c rfl ?_; refine cr_cell (o := 40) (m := N) (w := 0) rfl h4 hN (by omega) (by omega) ?_)
    repeat refine VV.s rfl ?_
    (refine VV.c rfl ?_; refine cr_cell (o := 40) (m := N) (w := 1) rfl h4 hN (by omega) (by omega) ?_)
    repeat refine VV.s rfl ?_
    (refine VV.c rfl ?_; refine cr_cell (o := 40) (m := N) (w := 2) rfl h4 hN (by omega) (by omega) ?_)
    show VV (d + 7) M_T_read 73 _ [.int (A 41 (3 * k + 2)), .int (A 41 (3 * k + 1)), .int (A 41 (3 * k)), .ref 1] _ _
    rw [e0, e1, e2]
    refine VV.c rfl (cx_do S τ A B i (hl x List.mem_cons_self) h (fun τ' A' B' h' f => ?_))
    have T := fun m' hm' q' => ih (k + 1) m' (oDo x s).2 τ' A' B' (by omega) hm' (iv_do i) h' (by rw [f.ft.2]; exact rc.tl) (fun y hy => hl y (List.mem_cons_of_mem _ hy)) (f.ft.1.trans h4) q'
    refine VV.s rfl ?_
    refine VV.i (fun c => ?_) (fun c => ?_)
    · have T := T m (by omega) (fun τ2 A2 B2 h2 f2 => by
        have w := q τ2 A2 B2 (by rw [oRun, if_pos c]; exact h2) (f.fx.trans f2)
        rw [oRun, if_pos c] at w
        exact w)
      refine VV.inc rfl rfl rfl ?_
      repeat (first | exact T | refine VV.s rfl ?_)
    · have T := T (m + 1) (by omega) (fun τ2 A2 B2 h2 f2 => by
        have w := q τ2 A2 B2 (by rw [oRun, if_neg c]; exact h2) (f.fx.trans f2)
        rw [oRun, if_neg c] at w
        exact w)
      refine VV.inc rfl rfl rfl ?_
      refine VV.inc rfl rfl rfl ?_
      repeat (first | exact T | refine VV.s rfl ?_)
theorem x_read {s : St} (i : IV s) : KX (d + 7) M_T_read [.ref 1] s (oRead s) := by
  intro S τ A B Q h q
  have ht := i.tm
  have key : (∀ f τ' A', (pT s 12 0).1 = some f → FT τ A τ' A' → VV (d + 7) M_T_read 7 [some (.ref 1), none, none, none, none, none] [.int (nI f)] (HH S τ' A' B) Q) → (∀ τ' A', (pT s 12 0).1 = none → FT τ A τ' A' → τ' 4002 = nI (pT s 12 0).2.length → RC (A' 41) 0 (pT s 12 0).2 → VV (d + 7) M_T_read 7 [some (.ref 1), none, none, none, none, none] [.int (-(nI 5))] (HH S τ' A' B) Q) → CC (d + 7) M_T_read [.ref 1] (HH S τ A B) Q := by
    intro k0 k1
    refine CC.of rfl ?_
    repeat refine VV.s rfl ?_
    refine VV.c rfl (CC.of rfl ?_)
    repeat refine VV.s rfl ?_
    (refine VV.c rfl ?_; refine cr_empty (o := 40) rfl ?_)
    refine VV.s rfl ?_
    refine VV.s rfl ?_
    refine VV.p rfl rfl (show 3 < 5 by decide) rfl (wf_3803 _ _ _ _ _) ?_
    refine VV.s rfl ?_
    refine VV.s rfl ?_
    have f : FT τ A (up (up τ 4002 (nI 0)) 3803 (nI 0)) A := FT.refl.u2.u3
    refine cl_ff ht 12 0 0 _ _ (by omega) (by omega) (Nat.zero_le _) (TX.ft ⟨h.th, h.tx⟩ f) rfl rfl (fun g τ' A' e f2 => ?_) (fun τ' A' e f2 e4 rc _ => ?_)
    · exact k0 g τ' A' e (f.trans f2)
    · rw [Nat.zero_add] at e4
      exact k1 τ' A' e (f.trans f2) e4 rc
  have rt0 : ∀ τ' A', FT τ A τ' A' → RX s.t0 (up τ' 3802 (nI 0)) A' B := by
    intro τ' A' f
    have h := h.ft f
    exact RX.mk (h.now.fr (fun k hk => up_n (by omega)) (fun k hk => rfl) (fun _ _ => rfl) (by omega)) h.im0 (fun c e => ⟨(h.im1 c e).1, (h.im1 c e).2.fr (fun k hk => up_n (by omega)) (fun k hk => rfl) (fun _ _ => rfl) (by omega)⟩) rfl (fun k hk => absurd hk (Nat.not_lt_zero k)) (fun t h6 => by rw [up_n (by omega)]; exact h.ts t h6) (fun t h6 => by rw [up_n (by omega)]; exact h.tl t h6) h.ti
  unfold oRead at q
  refine key (fun f τ' A' e g => ?_) (fun τ' A' e g h4 rc => ?_)
  · rw [e] at q
    repeat refine VV.s rfl ?_
    refine VV.c rfl (CC.of rfl ?_)
    refine VV.s rfl ?_
    refine VV.s rfl ?_
    refine VV.p rfl rfl (show 2 < 5 by decide) rfl (wf_3802 _ _ _ _ _) ?_
    refine VV.r rfl ?_
    refine VV.s rfl ?_
    refine VV.s rfl ?_
    refine VV.s rfl ?_
    have hf := pT_f 12 0 f (Nat.zero_le _) e
    refine VV.i (fun z => absurd z ?_) (fun _ => ?_)
    · intro z
      have := congrArg Int32.toInt z
      rw [nI_toInt (by omega)] at this
      exact absurd this (by rw [show (-(nI 5)).toInt = -5 by decide]; omega)
    · repeat refine VV.s rfl ?_
      exact VV.r rfl (q _ _ _ (rt0 τ' A' g) (FX.ut (by decide) g.fx))
  · rw [e] at q
    have hl := pT_l (s := s) 12 0
    have T := cx_run (d := d) S (Q := Q) (pT s 12 0).2.length hl (some (.int (-(nI 5)))) (pT s 12 0).2 0 0 s.t0 (up τ' 3802 (nI 0)) A' B (by omega) (Nat.le_refl 0) (iv_t0 i) (rt0 τ' A' g) rc (pT_k 12 0) h4 (fun τ2 A2 B2 h2 f2 => q τ2 A2 B2 h2 ((FX.ut (by decide) g.fx).trans f2))
    repeat refine VV.s rfl ?_
    refine VV.c rfl (CC.of rfl ?_)
    refine VV.s rfl ?_
    refine VV.s rfl ?_
    refine VV.p rfl rfl (show 2 < 5 by decide) rfl (wf_3802 _ _ _ _ _) ?_
    refine VV.r rfl ?_
    refine VV.s rfl ?_
    refine VV.s rfl ?_
    refine VV.s rfl ?_
    repeat refine VV.s rfl ?_
    refine VV.c rfl (CC.of rfl ?_)
    repeat refine VV.s rfl ?_
    refine VV.r rfl ?_
    repeat refine VV.s rfl ?_
    (refine VV.c rfl ?_; refine cr_held (o := 40) rfl (show up τ' 3802 (nI 0) (100 * 40 + 2) = nI (pT s 12 0).2.length from h4) ?_)
    repeat (first | exact T | refine VV.s rfl ?_)
end XR
