/-! minors: the reference's way, by the first row -/
def lowb (R : Nat) : Nat := if R % 2 = 1 then 0 else if R / 2 % 2 = 1 then 1 else if R / 4 % 2 = 1 then 2 else 3
def mz (E : Nat → Nat → Int64) (rc : Nat → Int64) (i C : Nat) : Nat → Nat → Int64 → Int64
  | 0, _, _ => 0
  | m + 1, j, sg => if C / 2 ^ j % 2 = 1 then sg * E i j * rc j + mz E rc i C m (j + 1) (-sg) else mz E rc i C m (j + 1) sg
def dL (E : Nat → Nat → Int64) : Nat → Nat → Nat → Int64
  | 0, _, _ => 1
  | f + 1, R, C => if R = 0 then 1 else mz E (fun j => dL E f (R ^^^ 2 ^ lowb R) (C ^^^ 2 ^ j)) (lowb R) C 4 0 1
theorem fin_bit : (List.range 16).all (fun x => (List.range 4).all (fun j => decide ((nI x >>> (nI j &&& 31)) &&& nI 1 = nI (x / 2 ^ j % 2)))) = true := by decide +kernel
theorem t_bit {x j : Nat} (hx : x < 16) (hj : j < 4) : (nI x >>> (nI j &&& 31)) &&& nI 1 = nI (x / 2 ^ j % 2) := of_decide_eq_true (List.all_eq_true.mp (List.all_eq_true.mp fin_bit x (List.mem_range.mpr hx)) j (List.mem_range.mpr hj))
theorem fin_clr : (List.range 16).all (fun x => (List.range 4).all (fun j => decide (x / 2 ^ j % 2 = 1 → nI x &&& ((nI 1 <<< (nI j &&& 31)) ^^^ -(nI 1)) = nI (x ^^^ 2 ^ j) ∧ x ^^^ 2 ^ j < 16 ∧ pop4 (x ^^^ 2 ^ j) + 1 = pop4 x))) = true := by decide +kernel
theorem t_clr {x j : Nat} (hx : x < 16) (hj : j < 4) (h : x / 2 ^ j % 2 = 1) : nI x &&& ((nI 1 <<< (nI j &&& 31)) ^^^ -(nI 1)) = nI (x ^^^ 2 ^ j) ∧ x ^^^ 2 ^ j < 16 ∧ pop4 (x ^^^ 2 ^ j) + 1 = pop4 x := of_decide_eq_true (List.all_eq_true.mp (List.all_eq_true.mp fin_clr x (List.mem_range.mpr hx)) j (List.mem_range.mpr hj)) h
theorem fin_low : (List.range 16).all (fun x => decide (x ≠ 0 → x / 2 ^ lowb x % 2 = 1 ∧ lowb x < 4 ∧ ∀ i, i < lowb x → x / 2 ^ i % 2 = 0)) = true := by decide +kernel
theorem t_low {x : Nat} (hx : x < 16) (h : x ≠ 0) : x / 2 ^ lowb x % 2 = 1 ∧ lowb x < 4 ∧ ∀ i, i < lowb x → x / 2 ^ i % 2 = 0 := of_decide_eq_true (List.all_eq_true.mp fin_low x (List.mem_range.mpr hx)) h
theorem pop4_0 {x : Nat} (hx : x < 16) (h : pop4 x = 0) : x = 0 := by
  have : (List.range 16).all (fun x => decide (pop4 x = 0 → x = 0)) = true := by decide +kernel
  exact of_decide_eq_true (List.all_eq_true.mp this x (List.mem_range.mpr hx)) h
set_option maxRecDepth 100000 in
set_option maxHeartbeats 4000000 in
theorem c_minorOf {S : Cl} {τ : Nat → Int32} {A : Nat → Nat → Int32} {B : Nat → Nat → Int64} {a : Nat} (ha : (lkp tabI a).isSome = true) (hla : lenI a = 16) : ∀ (f d R C : Nat) (Q : Option Value → Hp → Prop), pop4 R ≤ f → R < 16 → C < 16 → Q (some (.long (dL (fun i j => (A a (4 * i + j)).toInt64) f R C))) (HH S τ A B) → CC (d + f) M_M_minorOf [.ref a, .int (nI R), .int (nI C)] (HH S τ A B) Q := by
  intro f
  induction f with
  | zero =>
    intro d R C Q hp hR hC q
    have h0 : R = 0 := pop4_0 hR (by omega)
    subst h0
    refine CC.of rfl ?_
    repeat refine VV.s rfl ?_
    exact VV.r rfl q
  | succ f ih =>
    intro d R C Q hp hR hC q
    by_cases h0 : R = 0
    · subst h0
      refine CC.of rfl ?_
      repeat refine VV.s rfl ?_
      exact VV.r rfl q
    obtain ⟨l1, l2, l3⟩ := t_low hR h0
    refine CC.of rfl ?_
    refine VV.s rfl ?_
    refine VV.s rfl ?_
    refine VV.eq0 (by omega) (fun z => absurd z h0) (fun _ => ?_)
    refine VV.s rfl ?_
    refine VV.s rfl ?_
    -- the loop over i
    have hi : ∀ k, k ≤ lowb R → VV (d + (f + 1)) M_M_minorOf 22 [some (.ref a), some (.int (nI R)), some (.int (nI C)), some (.int (nI (lowb R))), none, none, none, none, none] [] (HH S τ A B) Q → VV (d + (f + 1)) M_M_minorOf 8 [some (.ref a), some (.int (nI R)), some (.int (nI C)), some (.int (nI (lowb R - k))), none, none, none, none, none] [] (HH S τ A B) Q := by
      intro k
      induction k with
      | zero =>
        intro _ g
        refine VV.s rfl ?_
        refine VV.s rfl ?_
        refine VV.s rfl ?_
        refine VV.s rfl ?_
        refine VV.s rfl ?_
        refine VV.s rfl ?_
        refine VV.f ?_ g
        show ¬ (nI R >>> (nI (lowb R) &&& 31)) &&& nI 1 = 0
        rw [t_bit hR l2, l1]
        decide
      | succ k ihk =>
        intro hk g
        have g2 := ihk (by omega) g
        refine VV.s rfl ?_
        refine VV.s rfl ?_
        refine VV.s rfl ?_
        refine VV.s rfl ?_
        refine VV.s rfl ?_
        refine VV.s rfl ?_
        refine VV.t ?_ ?_
        · show (nI R >>> (nI (lowb R - (k + 1)) &&& 31)) &&& nI 1 = 0
          rw [t_bit hR (by omega), l3 _ (by omega)]
          rfl
        refine VV.s rfl ?_
        refine VV.s rfl ?_
        have e9 : nI (lowb R - (k + 1)) + nI 1 = nI (lowb R - k) := by rw [nI_add]; congr 1; omega
        rw [← e9] at g2
        exact g2
    have hi2 := hi (lowb R) (Nat.le_refl _)
    rw [Nat.sub_self] at hi2
    refine hi2 ?_
    clear hi hi2
    -- the loop over j
    have hj : ∀ (m j : Nat) (sum sg : Int64), j + m = 4 → Q (some (.long (sum + mz (fun i j => (A a (4 * i + j)).toInt64) (fun j => dL (fun i j => (A a (4 * i + j)).toInt64) f (R ^^^ 2 ^ lowb R) (C ^^^ 2 ^ j)) (lowb R) C m j sg))) (HH S τ A B) → VV (d + (f + 1)) M_M_minorOf 31 [some (.ref a), some (.int (nI R)), some (.int (nI C)), some (.int (nI (lowb R))), some (.long sum), none, some (.long sg), none, some (.int (nI j))] [] (HH S τ A B) Q := by
      intro m
      induction m with
      | zero =>
        intro j sum sg hjm q
        have : j = 4 := by omega
        subst this
        refine VV.s rfl ?_
        refine VV.s rfl ?_
        refine VV.s rfl ?_
        refine VV.s rfl ?_
        refine VV.r rfl ?_
        simpa [mz] using q
      | succ m ihm =>
        intro j sum sg hjm q
        refine VV.s rfl ?_
        refine VV.s rfl ?_
        refine VV.s rfl ?_
        refine VV.lt (by omega) (by omega) (fun _ => ?_) (fun z => absurd z (by omega))
        refine VV.s rfl ?_
        refine VV.s rfl ?_
        refine VV.s rfl ?_
        refine VV.s rfl ?_
        refine VV.s rfl ?_
        refine VV.s rfl ?_
        have hn : nI j + nI 1 = nI (j + 1) := nI_add j 1
        have hb := t_bit hC (show j < 4 by omega)
        by_cases hc : C / 2 ^ j % 2 = 1
        · rw [hc] at hb
          refine VV.f ?_ ?_
          · show ¬ (nI C >>> (nI j &&& 31)) &&& nI 1 = 0
            rw [hb]; decide
          have hidx : nI 4 * nI (lowb R) + nI j = nI (4 * lowb R + j) := by rw [pk_mul, nI_add]
          obtain ⟨k1, k2, k3⟩ := t_clr hC (show j < 4 by omega) hc
          obtain ⟨k4, k5, k6⟩ := t_clr hR l2 l1
          rw [mz, if_pos hc] at q
          repeat refine VV.s rfl ?_
          refine VV.ia rfl ha hidx (by rw [hla]; omega) ?_
          refine VV.s rfl ?_
          refine VV.i (fun z => ?_) (fun z => ?_)
          · rw [z, show (nI 0).toInt64 = 0 from rfl] at q
            have := ihm (j + 1) sum (-sg) (by omega) (by
              have e : sum + (sg * 0 * dL (fun i j => (A a (4 * i + j)).toInt64) f (R ^^^ 2 ^ lowb R) (C ^^^ 2 ^ j) + mz (fun i j => (A a (4 * i + j)).toInt64) (fun j => dL (fun i j => (A a (4 * i + j)).toInt64) f (R ^^^ 2 ^ lowb R) (C ^^^ 2 ^ j)) (lowb R) C m (j + 1) (-sg)) = sum + mz (fun i j => (A a (4 * i + j)).toInt64) (fun j => dL (fun i j => (A a (4 * i + j)).toInt64) f (R ^^^ 2 ^ lowb R) (C ^^^ 2 ^ j)) (lowb R) C m (j + 1) (-sg) := by simp
              rw [← e]; exact q)
            rw [← hn] at this
            repeat (first | exact this | refine VV.s rfl ?_)
          · repeat refine VV.s rfl ?_
            refine VV.ia rfl ha hidx (by rw [hla]; omega) ?_
            repeat refine VV.s rfl ?_
            refine VV.c rfl ?_
            have := ihm (j + 1) (sum + sg * (A a (4 * lowb R + j)).toInt64 * dL (fun i j => (A a (4 * i + j)).toInt64) f (R ^^^ 2 ^ lowb R) (C ^^^ 2 ^ j)) (-sg) (by omega) (by
              rw [Int64.add_assoc]; exact q)
            rw [← hn] at this
            show CC (d + f) M_M_minorOf [.ref a, .int (nI R &&& ((nI 1 <<< (nI (lowb R) &&& 31)) ^^^ -(nI 1))), .int (nI C &&& ((nI 1 <<< (nI j &&& 31)) ^^^ -(nI 1)))] _ _
            rw [k1, k4]
            refine ih d _ _ _ (by omega) k5 k2 ?_
            repeat (first | exact this | refine VV.s rfl ?_)
        · have hc0 : C / 2 ^ j % 2 = 0 := by omega
          rw [hc0] at hb
          refine VV.t ?_ ?_
          · show (nI C >>> (nI j &&& 31)) &&& nI 1 = 0
            rw [hb]; rfl
          rw [mz, if_neg hc] at q
          have := ihm (j + 1) sum sg (by omega) q
          rw [← hn] at this
          repeat (first | exact this | refine VV.s rfl ?_)
    have := hj 4 0 0 1 rfl (by
      rw [dL, if_neg h0] at q
      rw [Int64.zero_add]; exact q)
    repeat (first | exact this | refine VV.s rfl ?_)
