/-! the class's calls: tapes -/
theorem sI_m1 {a : Nat} (h : a ≤ 5) : sI a = -(nI 1) ↔ a = 0 := by
  have := (show ∀ a, a < 6 → (sI a = -(nI 1) ↔ a = 0) by decide)
  exact this a (by omega)
theorem sI_nI {a : Nat} (h : 1 ≤ a) (h5 : a ≤ 5) : sI a = nI (a - 1) := by
  have := (show ∀ a, a < 6 → 1 ≤ a → sI a = nI (a - 1) by decide)
  exact this a (by omega) h
theorem sI_inj {a b : Nat} (h : a ≤ 5) (h2 : b ≤ 5) : sI a = sI b ↔ a = b := by
  have := (show ∀ a, a < 6 → ∀ b, b < 6 → (sI a = sI b ↔ a = b) by decide)
  exact this a (by omega) b (by omega)
theorem sI_1 {a : Nat} (h : a ≤ 5) : sI a = nI 1 ↔ a = 2 := by
  have := (show ∀ a, a < 6 → (sI a = nI 1 ↔ a = 2) by decide)
  exact this a (by omega)
theorem tabT_ok {k : Nat} (h : k < 6) : (lkp tabT (46 + 2 * k)).isSome = true := by
  have := (show ∀ k, k < 6 → (lkp tabT (46 + 2 * k)).isSome = true by decide)
  exact this k h
def noJ : Int64 := -(lN 9223372036854775808)
abbrev St.ts3 (s : St) (f g : Nat → Nat) (h : Nat → Nat → Int64) : St := (s.1, s.2.1, s.2.2.1, f, g, h)
def tset (s : St) (t a b : Nat) (f : Nat → Int64) : St := s.ts3 (up s.ts t a) (up s.th t b) (up s.ti t f)
def tput (s : St) (t : Nat) (f : Nat → Int64) : St := s.ts3 s.ts s.th (up s.ti t f)
def oTape (s : St) (t k n : Int32) : Int32 × St := if ltB 6 t = true then (if k = -(nI 1) then (nI 1, tset s t.toNatClampNeg 0 0 (fun _ => 0)) else if rgB (nI 0) (nI 4) k = true then (if nI 60 < n then (-(nI 2), s) else if n < nI 0 then (-(nI 14), s) else (nI 1, tset s t.toNatClampNeg (k.toNatClampNeg + 1) n.toNatClampNeg (fun _ => 0))) else (-(nI 2), s)) else (-(nI 1), s)
def oItem (s : St) (t x : Int32) (v : Int64) : Int32 × St := if ltB 6 t = true then (if s.ts t.toNatClampNeg = 0 then (-(nI 11), s) else if ltB (s.th t.toNatClampNeg) x = true then (nI 1, tput s t.toNatClampNeg (up (s.ti t.toNatClampNeg) x.toNatClampNeg (kpv (s.ts t.toNatClampNeg - 1) v))) else (-(nI 13), s)) else (-(nI 1), s)
def oPeek (s : St) (t x : Int32) : Int64 × St := (if ltB 6 t = true then (if ltB (s.th t.toNatClampNeg) x = true then s.ti t.toNatClampNeg x.toNatClampNeg else noJ) else noJ, s)
def oShift (s : St) (t i u j n : Int32) : Int32 × St := if ltB 6 t = true ∧ ltB 6 u = true then (if s.ts t.toNatClampNeg = 0 ∨ s.ts u.toNatClampNeg = 0 then (-(nI 11), s) else if s.ts t.toNatClampNeg = s.ts u.toNatClampNeg then (if hpB (s.th t.toNatClampNeg) i n = true ∧ hpB (s.th u.toNatClampNeg) j n = true then (n, tput s u.toNatClampNeg (cpf (s.ti t.toNatClampNeg) i.toNatClampNeg j.toNatClampNeg n.toNatClampNeg (s.ti u.toNatClampNeg))) else (-(nI 13), s)) else (-(nI 12), s)) else (-(nI 1), s)
def jdg (n h p : Nat) (E it : Nat → Int64) : Nat → Nat → Int32
  | 0, _ => -(nI 5)
  | m + 1, k => if h ≤ p + k then nI (100 + k) else if it (p + k) = E (4 * (k / n) + k % n) then jdg n h p E it m (k + 1) else nI (10 * (k / n) + k % n)
def oJudge (s : St) (t x : Int32) : Int32 × St := (if ltB 6 t = true then (if s.ts t.toNatClampNeg = 0 ∨ s.ts t.toNatClampNeg = 2 then (if x < nI 0 then nI 100 else jdg s.c.n (s.th t.toNatClampNeg) x.toNatClampNeg s.c.E (s.ti t.toNatClampNeg) (s.c.n * s.c.n) 0) else -(nI 12)) else -(nI 1), s)
section TX
variable {τ τ' : Nat → Int32} {A A' : Nat → Nat → Int32} {B B' : Nat → Nat → Int64} {s : St}
theorem RR.fr {o m : Nat} {f : Nat → Nat → Int32} (r : RR τ A o m f) (ht : ∀ k, k < 3200 → τ' k = τ k) (ha : ∀ k, k < 32 → A' k = A k) (ho : o < 31) : RR τ' A' o m f := ⟨by rw [ht _ (by omega), r.h], fun k w hk hw => by rw [ha _ (by omega), r.r k w hk hw]⟩
theorem RS.fr {p : Nat} {c : Co} (r : RS p c τ A B) (ht : ∀ k, k < 3200 → τ' k = τ k) (ha : ∀ k, k < 32 → A' k = A k) (hb : ∀ k, k < 32 → B' k = B k) (hp : p ≤ 15) : RS p c τ' A' B' :=
  ⟨by rw [ht _ (by omega), r.n], fun i j hi hj => by rw [hb _ (by omega), r.E i j hi hj], fun i hi => by rw [hb _ (by omega), r.V i hi], r.chip.fr ht ha (by omega), r.note.fr ht ha (by omega), r.seen.fr ht ha (by omega), r.event.fr ht ha (by omega), r.book.fr ht ha (by omega)⟩
theorem RX.tset (r : RX s τ A B) {t a b : Nat} (h6 : t < 6) {f g : Nat → Int64} (hf : ∀ j, j < 60 → f j = g j) : RX (tset s t a b g) (up (up τ (100 * (46 + 2 * t) + 1) (sI a)) (100 * (46 + 2 * t) + 2) (nI b)) A (up B (47 + 2 * t) f) := by
  have ht : ∀ k, k < 4600 → up (up τ (100 * (46 + 2 * t) + 1) (sI a)) (100 * (46 + 2 * t) + 2) (nI b) k = τ k := fun k hk => by rw [up_n (by omega), up_n (by omega)]
  have hb : ∀ k, k < 47 → up B (47 + 2 * t) f k = B k := fun k hk => up_n (by omega)
  refine RX.mk (r.now.fr (fun k hk => ht k (by omega)) (fun _ _ => rfl) (fun k hk => hb k (by omega)) (by omega)) (fun e => by rw [ht _ (by omega), r.im0 e]) (fun c e => ⟨by rw [ht _ (by omega), (r.im1 c e).1], (r.im1 c e).2.fr (fun k hk => ht k (by omega)) (fun _ _ => rfl) (fun k hk => hb k (by omega)) (by omega)⟩) (by rw [ht _ (by omega)]; exact r.th) (fun k hk => r.tx k hk) (fun u hu => ?_) (fun u hu => ?_) (fun u j hu hj => ?_)
  · show _ = sI (up s.ts t a u)
    by_cases e : u = t
    · subst e; rw [up_n (by omega), up_s, up_s]
    · rw [up_n (by omega), up_n (by omega), up_n e]; exact r.ts u hu
  · show _ = nI (up s.th t b u)
    by_cases e : u = t
    · subst e; rw [up_s, up_s]
    · rw [up_n (by omega), up_n (by omega), up_n e]; exact r.tl u hu
  · show _ = up s.ti t g u j
    by_cases e : u = t
    · subst e; rw [up_s, up_s]; exact hf j hj
    · rw [up_n (by omega), up_n e]; exact r.ti u j hu hj
theorem RX.tput (r : RX s τ A B) {t : Nat} (h6 : t < 6) {f g : Nat → Int64} (hf : ∀ j, j < 60 → f j = g j) : RX (tput s t g) τ A (up B (47 + 2 * t) f) := by
  have hb : ∀ k, k < 47 → up B (47 + 2 * t) f k = B k := fun k hk => up_n (by omega)
  refine RX.mk (r.now.fr (fun _ _ => rfl) (fun _ _ => rfl) (fun k hk => hb k (by omega)) (by omega)) r.im0 (fun c e => ⟨(r.im1 c e).1, (r.im1 c e).2.fr (fun _ _ => rfl) (fun _ _ => rfl) (fun k hk => hb k (by omega)) (by omega)⟩) r.th (fun k hk => r.tx k hk) r.ts r.tl (fun u j hu hj => ?_)
  show _ = up s.ti t g u j
  by_cases e : u = t
  · subst e; rw [up_s, up_s]; exact hf j hj
  · rw [up_n (by omega), up_n e]; exact r.ti u j hu hj
end TX
theorem cx_tapeAt {S : Cl} {τ : Nat → Int32} {A : Nat → Nat → Int32} {B : Nat → Nat → Int64} {d : Nat} {Q : Option Value → Hp → Prop} {t : Int32} (q1 : ∀ k, k < 6 → t = nI k → Q (some (.ref (46 + 2 * k))) (HH S τ A B)) (q2 : ltB 6 t = false → Q (some .null) (HH S τ A B)) : CC d M_T_tapeAt [.ref 1, .int t] (HH S τ A B) Q := by
  refine CC.of rfl ?_
  rcases nI_or t with hx | ⟨k, hk, rfl⟩
  · refine VV.s rfl ?_
    refine VV.s rfl ?_
    refine VV.t hx ?_
    repeat refine VV.s rfl ?_
    exact VV.r rfl (q2 (ltB_neg hx))
  · refine VV.s rfl ?_
    refine VV.s rfl ?_
    refine VV.b (b_ltF (by omega) (by omega)) ?_
    refine VV.s rfl ?_
    refine VV.s rfl ?_
    refine VV.s rfl ?_
    refine VV.s rfl ?_
    refine VV.s rfl ?_
    by_cases c : k < 6
    · refine VV.b (b_geF (b := 6) c (by omega)) ?_
      rcases (show k = 0 ∨ k = 1 ∨ k = 2 ∨ k = 3 ∨ k = 4 ∨ k = 5 by omega) with rfl | rfl | rfl | rfl | rfl | rfl
      · repeat refine VV.s rfl ?_
        exact VV.r rfl (q1 0 (by omega) rfl)
      · repeat refine VV.s rfl ?_
        exact VV.r rfl (q1 1 (by omega) rfl)
      · repeat refine VV.s rfl ?_
        exact VV.r rfl (q1 2 (by omega) rfl)
      · repeat refine VV.s rfl ?_
        exact VV.r rfl (q1 3 (by omega) rfl)
      · repeat refine VV.s rfl ?_
        exact VV.r rfl (q1 4 (by omega) rfl)
      · repeat refine VV.s rfl ?_
        exact VV.r rfl (q1 5 (by omega) rfl)
    · refine VV.b (b_geT (b := 6) (by omega) (by omega)) ?_
      repeat refine VV.s rfl ?_
      exact VV.r rfl (q2 (by rw [ltB_nI hk]; exact decide_eq_false c))
theorem ltB_nI6 {k : Nat} (h : k < 6) : ltB 6 (nI k) = true := by rw [ltB_nI (by omega)]; exact decide_eq_true h
section X3
variable {d : Nat} {s : St}
theorem x_tape (i : IV s) {t k n : Int32} : KX (d + 3) M_T_tape [.ref 1, .int t, .int k, .int n] s (oTape s t k n) := by
  intro S τ A B Q h q
  unfold oTape at q
  refine CC.of rfl ?_
  repeat refine VV.s rfl ?_
  (refine VV.c rfl ?_; refine cx_tapeAt (fun T h6 e => ?_) (fun e => ?_))
  · subst e
    rw [ltB_nI6 h6, if_pos rfl, nI_clamp (by omega)] at q
    have hT := tabT_ok h6
    repeat refine VV.s rfl ?_
    refine VV.i (fun c0 => ?_) (fun c0 => ?_)
    · rw [if_pos c0] at q
      repeat refine VV.s rfl ?_
      (refine VV.cv rfl (rdT hT).1 ?_; refine ct_become hT (fun E hE => ?_))
      rw [show 46 + 2 * T + 1 = 47 + 2 * T by omega]
      repeat refine VV.s rfl ?_
      exact VV.r rfl (q _ _ _ (h.tset (a := 0) (b := 0) h6 (g := fun _ => 0) (fun j hj => hE j hj)) (FX.ut (by omega) (FX.ut (by omega) (FX.ub (by omega) FX.refl))))
    rw [if_neg c0] at q
    refine VV.s rfl ?_
    refine VV.s rfl ?_
    refine VV.i (fun c1 => ?_) (fun c1 => ?_)
    · rw [rgB_lo c1] at q
      repeat refine VV.s rfl ?_
      exact VV.r rfl (q τ A B h FX.refl)
    refine VV.s rfl ?_
    refine VV.s rfl ?_
    refine VV.s rfl ?_
    refine VV.i (fun c2 => ?_) (fun c2 => ?_)
    · rw [rgB_hi c2] at q
      repeat refine VV.s rfl ?_
      exact VV.r rfl (q τ A B h FX.refl)
    rw [rgB_in c1 c2, if_pos rfl] at q
    refine VV.s rfl ?_
    refine VV.s rfl ?_
    refine VV.s rfl ?_
    refine VV.i (fun c3 => ?_) (fun c3 => ?_)
    · rw [if_pos c3] at q
      repeat refine VV.s rfl ?_
      exact VV.r rfl (q τ A B h FX.refl)
    rw [if_neg c3] at q
    refine VV.s rfl ?_
    refine VV.s rfl ?_
    refine VV.i (fun c4 => ?_) (fun c4 => ?_)
    · rw [if_pos c4] at q
      repeat refine VV.s rfl ?_
      exact VV.r rfl (q τ A B h FX.refl)
    rw [if_neg c4] at q
    repeat refine VV.s rfl ?_
    (refine VV.cv rfl (rdT hT).1 ?_; refine ct_become hT (fun E hE => ?_))
    rw [show 46 + 2 * T + 1 = 47 + 2 * T by omega]
    repeat refine VV.s rfl ?_
    obtain ⟨a, ha, rfl⟩ : ∃ a, a < 5 ∧ k = nI a := by
      rcases nI_or k with z | ⟨a, ha, rfl⟩
      · exact absurd z c1
      · exact ⟨a, Nat.lt_of_not_le (fun z => c2 ((nI_ltI (by omega) ha).mpr (by omega))), rfl⟩
    obtain ⟨b, hb, rfl⟩ : ∃ b, b < 61 ∧ n = nI b := by
      rcases nI_or n with z | ⟨b, hb, rfl⟩
      · exact absurd z c4
      · exact ⟨b, Nat.lt_of_not_le (fun z => c3 ((nI_ltI (by omega) hb).mpr (by omega))), rfl⟩
    rw [nI_clamp (by omega), nI_clamp (by omega)] at q
    have rx := h.tset (a := a + 1) (b := b) h6 (g := fun _ => 0) (fun j hj => hE j hj)
    rw [sI_nI (by omega) (by omega), Nat.add_sub_cancel] at rx
    exact VV.r rfl (q _ _ _ rx (FX.ut (by omega) (FX.ut (by omega) (FX.ub (by omega) FX.refl))))
  · rw [e] at q
    repeat refine VV.s rfl ?_
    exact VV.r rfl (q τ A B h FX.refl)
theorem x_item (i : IV s) {t x : Int32} {v : Int64} : KX (d + 3) M_T_item [.ref 1, .int t, .int x, .long v] s (oItem s t x v) := by
  intro S τ A B Q h q
  unfold oItem at q
  refine CC.of rfl ?_
  repeat refine VV.s rfl ?_
  (refine VV.c rfl ?_; refine cx_tapeAt (fun T h6 e => ?_) (fun e => ?_))
  · subst e
    rw [ltB_nI6 h6, if_pos rfl, nI_clamp (by omega)] at q
    have hT := tabT_ok h6
    have h5 := (i.ts T h6).1
    have h60 := (i.ts T h6).2.1
    repeat refine VV.s rfl ?_
    (refine VV.cv rfl (rdT hT).1 ?_; refine ct_sort hT ?_)
    rw [h.ts T h6]
    refine VV.s rfl ?_
    refine VV.s rfl ?_
    refine VV.i (fun c0 => ?_) (fun c0 => ?_)
    · rw [if_pos ((sI_m1 h5).mp c0)] at q
      repeat refine VV.s rfl ?_
      exact VV.r rfl (q τ A B h FX.refl)
    have z0 : s.ts T ≠ 0 := fun z => c0 ((sI_m1 h5).mpr z)
    rw [if_neg z0] at q
    repeat refine VV.s rfl ?_
    (refine VV.cv rfl (rdT hT).1 ?_; refine ct_hasPlaces hT (h.tl T h6) h60 ?_)
    rcases nI_or x with hx | ⟨k, hk, rfl⟩
    · rw [hpB_negx hx]
      rw [ltB_neg hx] at q
      repeat refine VV.s rfl ?_
      exact VV.r rfl (q τ A B h FX.refl)
    · rw [hpB_nI hk (by omega)]
      rw [ltB_nI hk] at q
      by_cases c : k < s.th T
      · rw [decide_eq_true (show k + 1 ≤ s.th T by omega)]
        rw [decide_eq_true c, if_pos rfl, nI_clamp (by omega)] at q
        repeat refine VV.s rfl ?_
        (refine VV.cv rfl (rdT hT).1 ?_; refine ct_put hT (h.tl T h6) h60 ((h.ts T h6).trans (sI_nI (by omega) h5)) (by omega) c ?_)
        rw [show 46 + 2 * T + 1 = 47 + 2 * T by omega]
        repeat refine VV.s rfl ?_
        refine VV.r rfl (q _ _ _ (h.tput h6 (f := up (B (47 + 2 * T)) k (kpv (s.ts T - 1) v)) (fun j hj => ?_)) (FX.ub (by omega) FX.refl))
        by_cases e : j = k
        · rw [e, up_s, up_s]
        · rw [up_n e, up_n e]; exact h.ti T j h6 hj
      · rw [decide_eq_false (show ¬ k + 1 ≤ s.th T by omega)]
        rw [decide_eq_false c] at q
        repeat refine VV.s rfl ?_
        exact VV.r rfl (q τ A B h FX.refl)
  · rw [e] at q
    repeat refine VV.s rfl ?_
    exact VV.r rfl (q τ A B h FX.refl)
theorem x_peek (i : IV s) {t x : Int32} : KXJ (d + 3) M_T_peek [.ref 1, .int t, .int x] s (oPeek s t x) := by
  intro S τ A B Q h q
  unfold oPeek at q
  refine CC.of rfl ?_
  repeat refine VV.s rfl ?_
  (refine VV.c rfl ?_; refine cx_tapeAt (fun T h6 e => ?_) (fun e => ?_))
  · subst e
    rw [ltB_nI6 h6, if_pos rfl, nI_clamp (by omega)] at q
    have hT := tabT_ok h6
    have h60 := (i.ts T h6).2.1
    repeat refine VV.s rfl ?_
    (refine VV.cv rfl (rdT hT).1 ?_; refine ct_hasPlaces hT (h.tl T h6) h60 ?_)
    rcases nI_or x with hx | ⟨k, hk, rfl⟩
    · rw [hpB_negx hx]
      rw [ltB_neg hx] at q
      repeat refine VV.s rfl ?_
      exact VV.r rfl (q τ A B h FX.refl)
    · rw [hpB_nI hk (by omega)]
      rw [ltB_nI hk] at q
      by_cases c : k < s.th T
      · rw [decide_eq_true (show k + 1 ≤ s.th T by omega)]
        rw [decide_eq_true c, if_pos rfl, nI_clamp (by omega), ← h.ti T k h6 (by omega)] at q
        repeat refine VV.s rfl ?_
        (refine VV.cv rfl (rdT hT).1 ?_; refine ct_at hT (h.tl T h6) h60 c ?_)
        rw [show 46 + 2 * T + 1 = 47 + 2 * T by omega]
        repeat refine VV.s rfl ?_
        exact VV.r rfl (q τ A B h FX.refl)
      · rw [decide_eq_false (show ¬ k + 1 ≤ s.th T by omega)]
        rw [decide_eq_false c] at q
        repeat refine VV.s rfl ?_
        exact VV.r rfl (q τ A B h FX.refl)
  · rw [e] at q
    repeat refine VV.s rfl ?_
    exact VV.r rfl (q τ A B h FX.refl)
end X3
