/-! what the calls do: numbers and rows; then the class's calls -/
def rgB (lo hi x : Int32) : Bool := !(decide (x < lo)) && !(decide (hi < x))
theorem rgB_lo {lo hi x : Int32} (h : x < lo) : rgB lo hi x = false := by unfold rgB; rw [decide_eq_true h]; rfl
theorem rgB_hi {lo hi x : Int32} (h : hi < x) : rgB lo hi x = false := by unfold rgB; rw [decide_eq_true h]; cases decide (x < lo) <;> rfl
theorem rgB_in {lo hi x : Int32} (h1 : ¬ x < lo) (h2 : ¬ hi < x) : rgB lo hi x = true := by unfold rgB; rw [decide_eq_false h1, decide_eq_false h2]; rfl
abbrev Co.sN (c : Co) (k x : Nat) : Co := (up c.1 k x, c.2.1, c.2.2)
abbrev Co.sL (c : Co) (k : Nat) (f : Nat → Int64) : Co := (c.1, up c.2.1 k f, c.2.2)
abbrev Co.sR (c : Co) (k : Nat) (f : Nat → Nat → Int32) : Co := (c.1, c.2.1, up c.2.2 k f)
abbrev St.sc (s : St) (c : Co) : St := (c, s.2)
/-- a row more -/
def rAdd (f : Nat → Nat → Int32) (m : Nat) (x y z : Int32) : Nat → Nat → Int32 := up f m (fun w => if w = 0 then x else if w = 1 then y else z)
abbrev Co.add (c : Co) (k : Nat) (x y z : Int32) : Co := (up c.1 k (c.m k + 1), c.2.1, up c.2.2 k (rAdd (c.r k) (c.m k) x y z))
/-- the number at a spot -/
def cel (x : Int32) : Nat := 4 * (x.toNatClampNeg / 10) + x.toNatClampNeg % 10
def uni (p : Nat) : Int64 := idm (p / 4) (p % 4)
def newCo (c : Co) (n : Nat) : Co := (up (up (up c.1 0 n) 1 0) 2 0, up (up c.2.1 0 uni) 1 (fun _ => 0), c.2.2)
def rz (x : Int64) : Int32 := x.toInt32 + nI 100
def oSize (s : St) (x : Int32) : Int32 × St := if rgB (nI 2) (nI 4) x = true then (nI s.c.n, s.sc (newCo s.c x.toNatClampNeg)) else (-(nI 2), s)
def oSet (s : St) (x v : Int32) : Int32 × St := if spB s.c.n x = true then (if rgB (-(nI 99)) (nI 99) v = true then (rz (s.c.E (cel x)), s.sc ((s.c.sN 2 0).sL 0 (up s.c.E (cel x) v.toInt64))) else (-(nI 2), s)) else (-(nI 1), s)
def oTurn (s : St) : Int32 × St := (nI 1, s.sc ((s.c.sN 2 0).sL 0 (fun p => s.c.E (4 * (p % 4) + p / 4))))
def oFlip (s : St) : Int32 × St := (nI 1, s.sc ((s.c.sN 2 0).sL 0 (fun p => s.c.E (4 * (s.c.n - 1 - p / 4) + (s.c.n - 1 - p % 4)))))
def chB (n : Nat) (a i : Int32) : Bool := (decide (a = nI 0 ∨ a = nI 1) && ltB (n - 1) i) || (decide (a = nI 2) && ltB n i)
def oAdd (s : St) (k most : Nat) (x y z : Int32) : Int32 × St := if s.c.m k = most then (-(nI 4), s) else (nI (s.c.m k + 1), s.sc (s.c.add k x y z))
def oChip (s : St) (a i v : Int32) : Int32 × St := if chB s.c.n a i = true then (if rgB (nI 1) (nI 9) v = true then oAdd s 1 12 a i v else (-(nI 2), s)) else (-(nI 1), s)
def oClear (s : St) : Int32 × St := (nI (s.c.m 1), s.sc (s.c.sN 1 0))
def oVector (s : St) (i v : Int32) : Int32 × St := if ltB s.c.n i = true then (if rgB (-(nI 9)) (nI 9) v = true then (rz (s.c.V i.toNatClampNeg), s.sc (s.c.sL 1 (up s.c.V i.toNatClampNeg v.toInt64))) else (-(nI 2), s)) else (-(nI 1), s)
def oSee (s : St) (x y v : Int32) : Int32 × St := if x = -(nI 1) then (nI 0, s.sc (s.c.sN 3 0)) else if mnB s.c.n x y = true then (if rgB (-(nI 99999)) (nI 99999) v = true then oAdd s 3 4 x y v else (-(nI 2), s)) else (-(nI 1), s)
def evB (n : Nat) (a x : Int32) : Bool := (decide (a = nI 0 ∨ a = nI 1) && spB n x) || ((decide (a = nI 2) && ltB (n - 1) x) || decide (a = nI 3))
def oEvent (s : St) (a x : Int32) : Int32 × St := if a = -(nI 1) then (nI 0, s.sc (s.c.sN 4 0)) else if evB s.c.n a x = true then (if a = nI 3 ∧ x ≠ nI 0 then (-(nI 2), s) else oAdd s 4 8 a x (nI 0)) else (-(nI 1), s)
def oBook (s : St) (x v : Int32) : Int32 × St := if x = -(nI 1) then (nI 0, s.sc (s.c.sN 5 0)) else if spB s.c.n x = true then (if rgB (-(nI 99)) (nI 99) v = true then oAdd s 5 8 x v (nI 0) else (-(nI 2), s)) else (-(nI 1), s)
def oFeed (s : St) (x : Int32) : Int32 × St := if rgB (nI 0) (nI 127) x = true then (if s.tm = 100 then (-(nI 4), s) else (nI (s.tm + 1), (s.1, s.2.1, (s.tm + 1, up s.tx s.tm x), s.2.2.2))) else (-(nI 2), s)
/-- what of the class's heap is no scratch and not of the scene `now` -/
def FN (τ : Nat → Int32) (A : Nat → Nat → Int32) (B : Nat → Nat → Int64) (τ' : Nat → Int32) (A' : Nat → Nat → Int32) (B' : Nat → Nat → Int64) : Prop := (∀ k, (k < 300 ∨ 1700 ≤ k) → k ≠ 3202 → k ≠ 3502 → τ' k = τ k) ∧ (∀ k, 17 ≤ k → A' k = A k) ∧ (∀ k, 17 ≤ k → k ≠ 33 → k ≠ 34 → k ≠ 36 → k ≠ 37 → k ≠ 43 → k ≠ 44 → k ≠ 45 → B' k = B k)
theorem FN.t {τ : Nat → Int32} {A : Nat → Nat → Int32} {B : Nat → Nat → Int64} {τ' : Nat → Int32} {A' : Nat → Nat → Int32} {B' : Nat → Nat → Int64} (h : FN τ A B τ' A' B') : ∀ k, (k < 300 ∨ 1700 ≤ k) → k ≠ 3202 → k ≠ 3502 → τ' k = τ k := h.1
theorem FN.a {τ : Nat → Int32} {A : Nat → Nat → Int32} {B : Nat → Nat → Int64} {τ' : Nat → Int32} {A' : Nat → Nat → Int32} {B' : Nat → Nat → Int64} (h : FN τ A B τ' A' B') : ∀ k, 17 ≤ k → A' k = A k := h.2.1
theorem FN.b {τ : Nat → Int32} {A : Nat → Nat → Int32} {B : Nat → Nat → Int64} {τ' : Nat → Int32} {A' : Nat → Nat → Int32} {B' : Nat → Nat → Int64} (h : FN τ A B τ' A' B') : ∀ k, 17 ≤ k → k ≠ 33 → k ≠ 34 → k ≠ 36 → k ≠ 37 → k ≠ 43 → k ≠ 44 → k ≠ 45 → B' k = B k := h.2.2
theorem FN.mk {τ : Nat → Int32} {A : Nat → Nat → Int32} {B : Nat → Nat → Int64} {τ' : Nat → Int32} {A' : Nat → Nat → Int32} {B' : Nat → Nat → Int64} (x0 : ∀ k, (k < 300 ∨ 1700 ≤ k) → k ≠ 3202 → k ≠ 3502 → τ' k = τ k) (x1 : ∀ k, 17 ≤ k → A' k = A k) (x2 : ∀ k, 17 ≤ k → k ≠ 33 → k ≠ 34 → k ≠ 36 → k ≠ 37 → k ≠ 43 → k ≠ 44 → k ≠ 45 → B' k = B k) : FN τ A B τ' A' B' := ⟨x0, x1, x2⟩
section FN
variable {τ τ' τ'' : Nat → Int32} {A A' A'' : Nat → Nat → Int32} {B B' B'' : Nat → Nat → Int64}
theorem FN.refl : FN τ A B τ A B := ⟨fun _ _ _ _ => rfl, fun _ _ => rfl, fun _ _ _ _ _ _ _ _ _ => rfl⟩
theorem FN.ut {k : Nat} {x : Int32} (hk : (300 ≤ k ∧ k < 1700) ∨ k = 3202 ∨ k = 3502) (h : FN τ A B τ' A' B') : FN τ A B (up τ' k x) A' B' := ⟨fun l h1 h2 h3 => by rw [up_n (by omega), h.t l h1 h2 h3], h.a, h.b⟩
theorem FN.ua {k : Nat} {x : Nat → Int32} (hk : k < 17) (h : FN τ A B τ' A' B') : FN τ A B τ' (up A' k x) B' := ⟨h.t, fun l hl => by rw [up_n (by omega), h.a l hl], h.b⟩
theorem FN.ub {k : Nat} {x : Nat → Int64} (hk : k < 17 ∨ k = 33 ∨ k = 34 ∨ k = 36 ∨ k = 37 ∨ k = 43 ∨ k = 44 ∨ k = 45) (h : FN τ A B τ' A' B') : FN τ A B τ' A' (up B' k x) := ⟨h.t, h.a, fun l h1 h2 h3 h4 h5 h6 h7 h8 => by rw [up_n (by omega), h.b l h1 h2 h3 h4 h5 h6 h7 h8]⟩
theorem FN.trans (h : FN τ A B τ' A' B') (g : FN τ' A' B' τ'' A'' B'') : FN τ A B τ'' A'' B'' := ⟨fun k h1 h2 h3 => (g.t k h1 h2 h3).trans (h.t k h1 h2 h3), fun k hk => (g.a k hk).trans (h.a k hk), fun k h1 h2 h3 h4 h5 h6 h7 h8 => (g.b k h1 h2 h3 h4 h5 h6 h7 h8).trans (h.b k h1 h2 h3 h4 h5 h6 h7 h8)⟩
theorem FN.fx (h : FN τ A B τ' A' B') : FX τ A B τ' A' B' := ⟨fun k hk => h.t k (by omega) (by omega) (by omega), fun k hk => h.a k (by omega), fun k hk => h.b k (by omega) (by omega) (by omega) (by omega) (by omega) (by omega) (by omega) (by omega)⟩
theorem RR.fn {o m : Nat} {f : Nat → Nat → Int32} (r : RR τ A o m f) (h : FN τ A B τ' A' B') (ho : 17 ≤ o) (h2 : o < 32) : RR τ' A' o m f := ⟨by rw [h.t _ (by omega) (by omega) (by omega), r.h], fun k w hk hw => by rw [h.a _ (by omega), r.r k w hk hw]⟩
theorem RS.fn {c : Co} (r : RS 15 c τ A B) (h : FN τ A B τ' A' B') : RS 15 c τ' A' B' :=
  ⟨by rw [h.t _ (by omega) (by omega) (by omega), r.n], fun i j hi hj => by rw [h.b _ (by omega) (by omega) (by omega) (by omega) (by omega) (by omega) (by omega) (by omega), r.E i j hi hj], fun i hi => by rw [h.b _ (by omega) (by omega) (by omega) (by omega) (by omega) (by omega) (by omega) (by omega), r.V i hi], r.chip.fn h (by omega) (by omega), r.note.fn h (by omega) (by omega), r.seen.fn h (by omega) (by omega), r.event.fn h (by omega) (by omega), r.book.fn h (by omega) (by omega)⟩
theorem RX.fn {s : St} {c : Co} (r : RX s τ A B) (h : FN τ A B τ' A' B') (n : RS 0 c τ' A' B') : RX (s.sc c) τ' A' B' :=
  ⟨n, fun e => by rw [h.t _ (by omega) (by omega) (by omega)]; exact r.im0 e, fun c e => ⟨by rw [h.t _ (by omega) (by omega) (by omega)]; exact (r.im1 c e).1, (r.im1 c e).2.fn h⟩, by rw [h.t _ (by omega) (by omega) (by omega)]; exact r.th, fun k hk => by rw [h.a _ (by omega)]; exact r.tx k hk, fun t ht => by rw [h.t _ (by omega) (by omega) (by omega)]; exact r.ts t ht, fun t ht => by rw [h.t _ (by omega) (by omega) (by omega)]; exact r.tl t ht, fun t j ht hj => by rw [h.b _ (by omega) (by omega) (by omega) (by omega) (by omega) (by omega) (by omega) (by omega)]; exact r.ti t j ht hj⟩
theorem RR.add {o m : Nat} {f : Nat → Nat → Int32} (r : RR τ A o m f) {x y z : Int32} : RR (up τ (100 * o + 2) (nI (m + 1))) (up A (o + 1) (up (up (up (A (o + 1)) (3 * m) x) (3 * m + 1) y) (3 * m + 2) z)) o (m + 1) (rAdd f m x y z) := by
  refine ⟨up_s _ _ _, fun k w hk hw => ?_⟩
  rw [up_s]
  unfold rAdd
  by_cases e : k = m
  · subst e
    rw [up_s]
    rcases (show w = 0 ∨ w = 1 ∨ w = 2 by omega) with rfl | rfl | rfl
    · rw [up_n (by omega), up_n (by omega)]; exact up_s _ _ _
    · rw [up_n (by omega), up_s]; rfl
    · rw [up_s]; rfl
  · rw [up_n (by omega), up_n (by omega), up_n (by omega), up_n e, r.r k w (by omega) hw]
theorem RR.zero {o m : Nat} {f : Nat → Nat → Int32} (r : RR τ A o m f) : RR (up τ (100 * o + 2) (nI 0)) A o 0 f := ⟨up_s _ _ _, fun k w hk _ => absurd hk (by omega)⟩
end FN
/-- a call of the class that answers an int: what it answers, and what it leaves -/
def KX (d u : Nat) (args : List Value) (s : St) (r : Int32 × St) : Prop := ∀ (S : Cl) (τ : Nat → Int32) (A : Nat → Nat → Int32) (B : Nat → Nat → Int64) (Q : Option Value → Hp → Prop), RX s τ A B → (∀ τ' A' B', RX r.2 τ' A' B' → FX τ A B τ' A' B' → Q (some (.int r.1)) (HH S τ' A' B')) → CC d u args (HH S τ A B) Q
def KXJ (d u : Nat) (args : List Value) (s : St) (r : Int64 × St) : Prop := ∀ (S : Cl) (τ : Nat → Int32) (A : Nat → Nat → Int32) (B : Nat → Nat → Int64) (Q : Option Value → Hp → Prop), RX s τ A B → (∀ τ' A' B', RX r.2 τ' A' B' → FX τ A B τ' A' B' → Q (some (.long r.1)) (HH S τ' A' B')) → CC d u args (HH S τ A B) Q
theorem cl_raised {d : Nat} {x : Int64} {h : Hp} {Q : Option Value → Hp → Prop} (q : Q (some (.int (rz x))) h) : CC d M_T_raised [.long x] h Q := by
  refine CC.of rfl ?_
  repeat refine VV.s rfl ?_
  exact VV.r rfl q
theorem x_size {d : Nat} {s : St} (i : IV s) {x : Int32} : KX (d + 3) M_T_size [.ref 1, .int x] s (oSize s x) := by
  intro S τ A B Q h q
  unfold oSize at q
  have hn : τ (100 * 3 + 2) = nI s.c.n := h.now.n
  refine CC.of rfl ?_
  refine VV.s rfl ?_
  refine VV.s rfl ?_
  refine VV.s rfl ?_
  refine VV.i (fun c1 => ?_) (fun c1 => ?_)
  · rw [rgB_lo c1] at q
    repeat refine VV.s rfl ?_
    exact VV.r rfl (q τ A B h FX.refl)
  refine VV.s rfl ?_
  refine VV.s rfl ?_
  refine VV.s rfl ?_
  refine VV.i (fun c2 => ?_) (fun c2 => ?_)
  · rw [rgB_hi c2] at q
    repeat refine VV.s rfl ?_
    exact VV.r rfl (q τ A B h FX.refl)
  rw [rgB_in c1 c2, if_pos rfl] at q
  obtain ⟨k, hk, rfl⟩ : ∃ k, k < 2147483648 ∧ x = nI k := (nI_or x).elim (fun z => absurd (Int32.lt_trans z (by decide)) c1) id
  have k2 : 2 ≤ k := Nat.le_of_not_lt (fun z => c1 ((nI_ltI hk (by omega)).mpr z))
  have k4 : k ≤ 4 := Nat.le_of_not_lt (fun z => c2 ((nI_ltI (by omega) hk).mpr z))
  rw [nI_clamp (by omega)] at q
  repeat refine VV.s rfl ?_
  (refine VV.c rfl ?_; refine c_lines (g := 3) rfl hn i.c.n4 ?_)
  repeat refine VV.s rfl ?_
  (refine VV.c rfl ?_; refine c_becomeUnit (g := 3) rfl k4 (fun E hE => ?_))
  repeat refine VV.s rfl ?_
  (refine VV.c rfl ?_; refine cr_empty (o := 6) rfl ?_)
  repeat refine VV.s rfl ?_
  (refine VV.c rfl ?_; refine c_fill (a := 8) rfl (fun V hV => ?_))
  repeat refine VV.s rfl ?_
  (refine VV.c rfl ?_; refine cr_empty (o := 9) rfl ?_)
  repeat refine VV.s rfl ?_
  have f : FN τ A B (up (up (up τ 302 (nI k)) 602 (nI 0)) 902 (nI 0)) A (up (up B 4 E) 8 V) := FN.ut (by decide) (FN.ut (by decide) (FN.ut (by decide) (FN.ub (by decide) (FN.ub (by decide) FN.refl))))
  refine VV.r rfl (q _ _ _ (h.fn f (RS.mk rfl (fun i j hi hj => ?_) (fun i hi => hV i hi) ⟨rfl, fun k w hk _ => absurd hk (Nat.not_lt_zero k)⟩ ⟨rfl, fun k w hk _ => absurd hk (Nat.not_lt_zero k)⟩ h.now.seen h.now.event h.now.book)) f.fx)
  have hj4 : j < 4 := Nat.lt_of_lt_of_le hj k4
  show E (4 * i + j) = idm ((4 * i + j) / 4) ((4 * i + j) % 4)
  rw [hE i j hi hj, show (4 * i + j) / 4 = i by omega, show (4 * i + j) % 4 = j by omega]
