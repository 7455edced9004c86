/-! chips: the product's minors are the ways of sets of lines -/
def aL (a i : Nat) : Nat := if a = 1 then i + 1 else i
def bL (a i : Nat) : Nat := if a = 0 then i + 1 else i
def wst1 (a i v : Nat) (W : Nat → Int64) : Nat → Int64 := fun t => if a = 2 then (if t / 2 ^ i % 2 = 1 then W t * lN v else W t) else if t / 2 ^ bL a i % 2 = 1 ∧ t / 2 ^ aL a i % 2 = 0 then W t + W (t ^^^ 2 ^ aL a i ^^^ 2 ^ bL a i) * lN v else W t
def wst (r : Nat → Nat → Int32) (R : Nat) : Nat → Nat → Int64
  | 0 => fun t => if t = R then 1 else 0
  | k + 1 => wst1 (r k 0).toNatClampNeg (r k 1).toNatClampNeg (r k 2).toNatClampNeg (wst r R k)
def pst1 (a i v : Nat) (P : Nat → Int64) : Nat → Int64 := fun p => if p % 4 = bL a i then P p + lN (if a = 2 then v - 1 else v) * P (4 * (p / 4) + aL a i) else P p
def pst (r : Nat → Nat → Int32) : Nat → Nat → Int64
  | 0 => uni
  | k + 1 => pst1 (r k 0).toNatClampNeg (r k 1).toNatClampNeg (r k 2).toNatClampNeg (pst r k)
theorem fin_uni : (List.range 16).all (fun R => (List.range 16).all (fun C => decide (pop4 R = pop4 C → mnr uni R C = if C = R then 1 else 0))) = true := by decide +kernel
theorem t_uni {R C : Nat} (hR : R < 16) (hC : C < 16) (h : pop4 R = pop4 C) : mnr uni R C = if C = R then 1 else 0 := of_decide_eq_true (List.all_eq_true.mp (List.all_eq_true.mp fin_uni R (List.mem_range.mpr hR)) C (List.mem_range.mpr hC)) h
/-- what a chip is -/
def chOk (n a i v : Nat) : Prop := a < 3 ∧ (if a = 2 then i < n else i + 1 < n) ∧ 1 ≤ v ∧ v ≤ 9
theorem pst1_at {a i v : Nat} {P : Nat → Int64} {l j : Nat} (hj : j < 4) : pst1 a i v P (4 * l + j) = if j = bL a i then P (4 * l + j) + lN (if a = 2 then v - 1 else v) * P (4 * l + aL a i) else P (4 * l + j) := by
  unfold pst1
  rw [show (4 * l + j) % 4 = j by omega, show (4 * l + j) / 4 = l by omega]
theorem lN_s {v : Nat} (h : 1 ≤ v) (x : Int64) : x + lN (v - 1) * x = x * lN v := by
  have e : lN v = lN (v - 1) + 1 := by rw [lN_1, Nat.sub_add_cancel h]
  rw [e]
  grind
theorem dL_00 (E : Nat → Nat → Int64) (T : Nat) : ∀ f, dL E f 0 T = 1
  | 0 => rfl
  | f + 1 => by rw [dL, if_pos rfl]
theorem wst1_2 (i v : Nat) (W : Nat → Int64) (t : Nat) : wst1 2 i v W t = if t / 2 ^ i % 2 = 1 then W t * lN v else W t := if_pos rfl
theorem wst1_n {a i v : Nat} {W : Nat → Int64} {t : Nat} (h : a ≠ 2) : wst1 a i v W t = if t / 2 ^ bL a i % 2 = 1 ∧ t / 2 ^ aL a i % 2 = 0 then W t + W (t ^^^ 2 ^ aL a i ^^^ 2 ^ bL a i) * lN v else W t := if_neg h
theorem wst1_00 (a i v : Nat) (W : Nat → Int64) : wst1 a i v W 0 = W 0 := by
  by_cases h : a = 2
  · subst h
    rw [wst1_2, Nat.zero_div, if_neg (by decide)]
  · rw [wst1_n h, Nat.zero_div, Nat.zero_div, if_neg (by decide)]
theorem aL_0 (i : Nat) : aL 0 i = i := rfl
theorem bL_0 (i : Nat) : bL 0 i = i + 1 := rfl
theorem aL_1 (i : Nat) : aL 1 i = i + 1 := rfl
theorem bL_1 (i : Nat) : bL 1 i = i := rfl
theorem aL_2 (i : Nat) : aL 2 i = i := rfl
theorem bL_2 (i : Nat) : bL 2 i = i := rfl
theorem dL_chip {n a i v : Nat} {P : Nat → Int64} (h4 : n ≤ 4) (hc : chOk n a i v) : ∀ f R C, R < 16 → C < 16 → pop4 R = pop4 C → pop4 R ≤ f → dL (fun k j => pst1 a i v P (4 * k + j)) f R C = wst1 a i v (fun T => dL (fun k j => P (4 * k + j)) f R T) C := by
  intro f
  have zero : ∀ f, dL (fun k j => pst1 a i v P (4 * k + j)) f 0 0 = wst1 a i v (fun T => dL (fun k j => P (4 * k + j)) f 0 T) 0 := by
    intro f
    rw [dL_00, wst1_00, dL_00]
  induction f with
  | zero =>
    intro R C hR hC hp hf
    have e1 := pop4_0 hR (by omega)
    have e2 := pop4_0 hC (by omega)
    subst e1 e2
    exact zero 0
  | succ f ih =>
    intro R C hR hC hp hf
    by_cases c : R = 0
    · subst c
      have e2 := pop4_0 hC (by rw [← hp]; rfl)
      subst e2
      exact zero (f + 1)
    · obtain ⟨l1, l2, _⟩ := t_low hR c
      obtain ⟨_, r1, r2⟩ := t_clr hR l2 l1
      obtain ⟨ha, hi, v1, v2⟩ := hc
      have hx : ∀ T, dL (fun k j => P (4 * k + j)) (f + 1) R T = mz (fun k j => P (4 * k + j)) (fun j => dL (fun k j => P (4 * k + j)) f (R ^^^ 2 ^ lowb R) (T ^^^ 2 ^ j)) (lowb R) T 4 0 1 := fun T => by rw [dL, if_neg c]
      have hy : dL (fun k j => pst1 a i v P (4 * k + j)) (f + 1) R C = mz (fun k j => pst1 a i v P (4 * k + j)) (fun j => dL (fun k j => pst1 a i v P (4 * k + j)) f (R ^^^ 2 ^ lowb R) (C ^^^ 2 ^ j)) (lowb R) C 4 0 1 := by rw [dL, if_neg c]
      have hI : ∀ T, T < 16 → pop4 T + 1 = pop4 C → dL (fun k j => pst1 a i v P (4 * k + j)) f (R ^^^ 2 ^ lowb R) T = wst1 a i v (fun T => dL (fun k j => P (4 * k + j)) f (R ^^^ 2 ^ lowb R) T) T := fun T hT hpT => ih _ T r1 hT (by omega) (by omega)
      have he : ∀ j, j < 4 → j ≠ bL a i → pst1 a i v P (4 * lowb R + j) = P (4 * lowb R + j) := fun j hj hn => by rw [pst1_at hj, if_neg hn]
      have hg : bL a i < 4 → pst1 a i v P (4 * lowb R + bL a i) = P (4 * lowb R + bL a i) + lN (if a = 2 then v - 1 else v) * P (4 * lowb R + aL a i) := fun hb => by rw [pst1_at hb, if_pos rfl]
      rw [hy]
      rcases (show a = 0 ∨ a = 1 ∨ a = 2 by omega) with rfl | rfl | rfl
      · have hi2 : i + 1 < n := hi
        simp only [wst1_n (show 0 ≠ 2 by decide), aL_0, bL_0] at hI he hg ⊢
        simp only [hx]
        rw [if_neg (show ¬ 0 = 2 by decide)] at hg
        rcases (show i = 0 ∨ i = 1 ∨ i = 2 by omega) with rfl | rfl | rfl
        · exact cm_0_1 (E := fun k j => P (4 * k + j)) (E2 := fun k j => pst1 0 0 v P (4 * k + j)) (x := fun T => dL (fun k j => P (4 * k + j)) f (R ^^^ 2 ^ lowb R) T) (y := fun T => dL (fun k j => pst1 0 0 v P (4 * k + j)) f (R ^^^ 2 ^ lowb R) T) (v := lN v) (l := lowb R) he (hg (by decide)) hC hI
        · exact cm_1_2 (E := fun k j => P (4 * k + j)) (E2 := fun k j => pst1 0 1 v P (4 * k + j)) (x := fun T => dL (fun k j => P (4 * k + j)) f (R ^^^ 2 ^ lowb R) T) (y := fun T => dL (fun k j => pst1 0 1 v P (4 * k + j)) f (R ^^^ 2 ^ lowb R) T) (v := lN v) (l := lowb R) he (hg (by decide)) hC hI
        · exact cm_2_3 (E := fun k j => P (4 * k + j)) (E2 := fun k j => pst1 0 2 v P (4 * k + j)) (x := fun T => dL (fun k j => P (4 * k + j)) f (R ^^^ 2 ^ lowb R) T) (y := fun T => dL (fun k j => pst1 0 2 v P (4 * k + j)) f (R ^^^ 2 ^ lowb R) T) (v := lN v) (l := lowb R) he (hg (by decide)) hC hI
      · have hi2 : i + 1 < n := hi
        simp only [wst1_n (show 1 ≠ 2 by decide), aL_1, bL_1] at hI he hg ⊢
        simp only [hx]
        rw [if_neg (show ¬ 1 = 2 by decide)] at hg
        rcases (show i = 0 ∨ i = 1 ∨ i = 2 by omega) with rfl | rfl | rfl
        · exact cm_1_0 (E := fun k j => P (4 * k + j)) (E2 := fun k j => pst1 1 0 v P (4 * k + j)) (x := fun T => dL (fun k j => P (4 * k + j)) f (R ^^^ 2 ^ lowb R) T) (y := fun T => dL (fun k j => pst1 1 0 v P (4 * k + j)) f (R ^^^ 2 ^ lowb R) T) (v := lN v) (l := lowb R) he (hg (by decide)) hC hI
        · exact cm_2_1 (E := fun k j => P (4 * k + j)) (E2 := fun k j => pst1 1 1 v P (4 * k + j)) (x := fun T => dL (fun k j => P (4 * k + j)) f (R ^^^ 2 ^ lowb R) T) (y := fun T => dL (fun k j => pst1 1 1 v P (4 * k + j)) f (R ^^^ 2 ^ lowb R) T) (v := lN v) (l := lowb R) he (hg (by decide)) hC hI
        · exact cm_3_2 (E := fun k j => P (4 * k + j)) (E2 := fun k j => pst1 1 2 v P (4 * k + j)) (x := fun T => dL (fun k j => P (4 * k + j)) f (R ^^^ 2 ^ lowb R) T) (y := fun T => dL (fun k j => pst1 1 2 v P (4 * k + j)) f (R ^^^ 2 ^ lowb R) T) (v := lN v) (l := lowb R) he (hg (by decide)) hC hI
      · have hi2 : i < n := hi
        simp only [wst1_2, aL_2, bL_2] at hI he hg ⊢
        simp only [hx]
        rw [if_pos trivial] at hg
        rcases (show i = 0 ∨ i = 1 ∨ i = 2 ∨ i = 3 by omega) with rfl | rfl | rfl | rfl
        · exact cs_0 (E := fun k j => P (4 * k + j)) (E2 := fun k j => pst1 2 0 v P (4 * k + j)) (x := fun T => dL (fun k j => P (4 * k + j)) f (R ^^^ 2 ^ lowb R) T) (y := fun T => dL (fun k j => pst1 2 0 v P (4 * k + j)) f (R ^^^ 2 ^ lowb R) T) (v := lN v) (l := lowb R) he ((hg (by decide)).trans (lN_s v1 _)) hC hI
        · exact cs_1 (E := fun k j => P (4 * k + j)) (E2 := fun k j => pst1 2 1 v P (4 * k + j)) (x := fun T => dL (fun k j => P (4 * k + j)) f (R ^^^ 2 ^ lowb R) T) (y := fun T => dL (fun k j => pst1 2 1 v P (4 * k + j)) f (R ^^^ 2 ^ lowb R) T) (v := lN v) (l := lowb R) he ((hg (by decide)).trans (lN_s v1 _)) hC hI
        · exact cs_2 (E := fun k j => P (4 * k + j)) (E2 := fun k j => pst1 2 2 v P (4 * k + j)) (x := fun T => dL (fun k j => P (4 * k + j)) f (R ^^^ 2 ^ lowb R) T) (y := fun T => dL (fun k j => pst1 2 2 v P (4 * k + j)) f (R ^^^ 2 ^ lowb R) T) (v := lN v) (l := lowb R) he ((hg (by decide)).trans (lN_s v1 _)) hC hI
        · exact cs_3 (E := fun k j => P (4 * k + j)) (E2 := fun k j => pst1 2 3 v P (4 * k + j)) (x := fun T => dL (fun k j => P (4 * k + j)) f (R ^^^ 2 ^ lowb R) T) (y := fun T => dL (fun k j => pst1 2 3 v P (4 * k + j)) f (R ^^^ 2 ^ lowb R) T) (v := lN v) (l := lowb R) he ((hg (by decide)).trans (lN_s v1 _)) hC hI
def rowOk2 (n : Nat) (r : Nat → Nat → Int32) (k : Nat) : Prop := ∃ a i v : Nat, r k 0 = nI a ∧ r k 1 = nI i ∧ r k 2 = nI v ∧ chOk n a i v
theorem chOk_clamp {n : Nat} {r : Nat → Nat → Int32} {k : Nat} (h4 : n ≤ 4) (h : rowOk2 n r k) : chOk n (r k 0).toNatClampNeg (r k 1).toNatClampNeg (r k 2).toNatClampNeg := by
  obtain ⟨a, i, v, e1, e2, e3, hc⟩ := h
  have h1 := hc.1
  have h2 := hc.2.1
  have h3 := hc.2.2
  have hi : i < 4 := by
    by_cases c : a = 2
    · rw [if_pos c] at h2; omega
    · rw [if_neg c] at h2; omega
  rw [e1, e2, e3, nI_clamp (by omega), nI_clamp (by omega), nI_clamp (by omega)]
  exact hc
theorem fin_mv : (List.range 16).all (fun t => (List.range 4).all (fun f => (List.range 4).all (fun g => decide (t / 2 ^ g % 2 = 1 → t / 2 ^ f % 2 = 0 → t ^^^ 2 ^ f ^^^ 2 ^ g < 16 ∧ pop4 (t ^^^ 2 ^ f ^^^ 2 ^ g) = pop4 t)))) = true := by decide +kernel
theorem t_mv {t f g : Nat} (ht : t < 16) (hf : f < 4) (hg : g < 4) (h1 : t / 2 ^ g % 2 = 1) (h2 : t / 2 ^ f % 2 = 0) : t ^^^ 2 ^ f ^^^ 2 ^ g < 16 ∧ pop4 (t ^^^ 2 ^ f ^^^ 2 ^ g) = pop4 t := of_decide_eq_true (List.all_eq_true.mp (List.all_eq_true.mp (List.all_eq_true.mp fin_mv t (List.mem_range.mpr ht)) f (List.mem_range.mpr hf)) g (List.mem_range.mpr hg)) h1 h2
theorem ab_lt {n a i v : Nat} (h4 : n ≤ 4) (hc : chOk n a i v) : aL a i < n ∧ bL a i < n := by
  obtain ⟨ha, hi, _⟩ := hc
  unfold aL bL
  rcases (show a = 0 ∨ a = 1 ∨ a = 2 by omega) with rfl | rfl | rfl
  · have : i + 1 < n := hi
    exact ⟨by show i < n; omega, by show i + 1 < n; omega⟩
  · have : i + 1 < n := hi
    exact ⟨by show i + 1 < n; omega, by show i < n; omega⟩
  · exact ⟨hi, hi⟩
theorem lgv {n m : Nat} {r : Nat → Nat → Int32} (h4 : n ≤ 4) (hr : ∀ k, k < m → rowOk2 n r k) : ∀ k, k ≤ m → ∀ R C, R < 16 → C < 16 → pop4 R = pop4 C → mnr (pst r k) R C = wst r R k C := by
  intro k
  induction k with
  | zero => intro _ R C hR hC hp; exact t_uni hR hC hp
  | succ k ih =>
    intro hk R C hR hC hp
    have hc := chOk_clamp h4 (hr k (by omega))
    have hab := ab_lt h4 hc
    have ih := ih (by omega) R
    rw [pst, wst]
    refine (dL_chip h4 hc 4 R C hR hC hp (pp4 R)).trans ?_
    show wst1 _ _ _ (fun T => mnr (pst r k) R T) C = _
    by_cases c2 : (r k 0).toNatClampNeg = 2
    · rw [c2, wst1_2, wst1_2, ih C hR hC hp]
    · rw [wst1_n c2, wst1_n c2, ih C hR hC hp]
      by_cases c3 : C / 2 ^ bL (r k 0).toNatClampNeg (r k 1).toNatClampNeg % 2 = 1 ∧ C / 2 ^ aL (r k 0).toNatClampNeg (r k 1).toNatClampNeg % 2 = 0
      · have := t_mv hC (show aL (r k 0).toNatClampNeg (r k 1).toNatClampNeg < 4 by omega) (show bL (r k 0).toNatClampNeg (r k 1).toNatClampNeg < 4 by omega) c3.1 c3.2
        rw [if_pos c3, if_pos c3, ih _ hR this.1 (by omega)]
      · rw [if_neg c3, if_neg c3]
theorem p10 : ∀ k, k < 13 → 10 ^ k ≤ 1000000000000 := by decide
theorem pst_b {n m : Nat} {r : Nat → Nat → Int32} (h4 : n ≤ 4) (hm : m ≤ 12) (hr : ∀ k, k < m → rowOk2 n r k) : ∀ k, k ≤ m → ∀ p, 0 ≤ (pst r k p).toInt ∧ (pst r k p).toInt.natAbs ≤ 10 ^ k := by
  intro k
  induction k with
  | zero =>
    intro _ p
    show 0 ≤ (uni p).toInt ∧ (uni p).toInt.natAbs ≤ 1
    unfold uni idm
    by_cases c : p / 4 = p % 4
    · rw [if_pos c]; decide
    · rw [if_neg c]; decide
  | succ k ih =>
    intro hk p
    have hc := chOk_clamp h4 (hr k (by omega))
    have ih := ih (by omega)
    have h10 := p10 k (by omega)
    obtain ⟨_, _, v1, v2⟩ := hc
    have a1 := ih p
    rw [pst]
    unfold pst1
    rw [Nat.pow_succ]
    by_cases c : p % 4 = bL (r k 0).toNatClampNeg (r k 1).toNatClampNeg
    · rw [if_pos c]
      have a2 := ih (4 * (p / 4) + aL (r k 0).toNatClampNeg (r k 1).toNatClampNeg)
      obtain ⟨w, hw, ew⟩ : ∃ w, w ≤ 9 ∧ (if (r k 0).toNatClampNeg = 2 then (r k 2).toNatClampNeg - 1 else (r k 2).toNatClampNeg) = w := ⟨_, by split <;> omega, rfl⟩
      rw [ew]
      have ewn : (lN w).toInt = w := pk_lT (by omega)
      have hmul : w * (pst r k (4 * (p / 4) + aL (r k 0).toNatClampNeg (r k 1).toNatClampNeg)).toInt.natAbs ≤ 9 * 10 ^ k := Nat.mul_le_mul hw a2.2
      have e1 : (lN w * pst r k (4 * (p / 4) + aL (r k 0).toNatClampNeg (r k 1).toNatClampNeg)).toInt = (w : Int) * (pst r k (4 * (p / 4) + aL (r k 0).toNatClampNeg (r k 1).toNatClampNeg)).toInt := by
        rw [i64_mul (by rw [ewn]; show w * _ < _; omega), ewn]
      have e2 : (lN w * pst r k (4 * (p / 4) + aL (r k 0).toNatClampNeg (r k 1).toNatClampNeg)).toInt.natAbs ≤ 9 * 10 ^ k := by
        rw [e1, Int.natAbs_mul]; exact hmul
      have e3 : 0 ≤ (lN w * pst r k (4 * (p / 4) + aL (r k 0).toNatClampNeg (r k 1).toNatClampNeg)).toInt := by
        rw [e1]; exact Int.mul_nonneg (by omega) a2.1
      rw [i64_add (by omega)]
      omega
    · rw [if_neg c]
      omega
