/-! the class's calls: minors that are noted, sums, unlike ones, odds, means -/
theorem pigeon : ∀ (m : Nat) (l : List Nat) (f : Nat → Nat), (∀ k, k < m → f k ∈ l) → (∀ i j, i < j → j < m → f i ≠ f j) → m ≤ l.length := by
  intro m
  induction m with
  | zero => intro l f _ _; exact Nat.zero_le _
  | succ m ih =>
    intro l f h1 h2
    have hm := h1 m (by omega)
    have := ih (l.erase (f m)) f (fun k hk => (List.mem_erase_of_ne (h2 k m hk (by omega))).mpr (h1 k (by omega))) (fun i j hi hj => h2 i j hi (by omega))
    rw [List.length_erase_of_mem hm] at this
    have : 0 < l.length := List.length_pos_of_mem hm
    omega
def keys : List Nat := (List.range 256).filter (fun p => decide (1 ≤ p / 16 ∧ 1 ≤ p % 16 ∧ pop4 (p / 16) = pop4 (p % 16)))
theorem keys_len : keys.length = 69 := by decide +kernel
theorem keys_in {R C : Nat} (h1 : 1 ≤ R) (h2 : R < 16) (h3 : 1 ≤ C) (h4 : C < 16) (h5 : pop4 R = pop4 C) : 16 * R + C ∈ keys := by
  unfold keys
  rw [List.mem_filter]
  refine ⟨List.mem_range.mpr (by omega), decide_eq_true ?_⟩
  rw [show (16 * R + C) / 16 = R by omega, show (16 * R + C) % 16 = C by omega]
  exact ⟨h1, h3, h5⟩
def hld (r : Nat → Nat → Int32) (m : Nat) (x y : Int32) : Bool := (List.range m).any (fun k => decide (r k 0 = x ∧ r k 1 = y))
theorem hld_t {r : Nat → Nat → Int32} {m : Nat} {x y : Int32} (h : ∃ k, k < m ∧ r k 0 = x ∧ r k 1 = y) : hld r m x y = true := by
  obtain ⟨k, hk, e⟩ := h
  exact List.any_eq_true.mpr ⟨k, List.mem_range.mpr hk, decide_eq_true e⟩
theorem hld_f {r : Nat → Nat → Int32} {m : Nat} {x y : Int32} (h : ∀ k, k < m → ¬ (r k 0 = x ∧ r k 1 = y)) : hld r m x y = false := by
  cases hb : hld r m x y with
  | false => rfl
  | true =>
    obtain ⟨k, hk, e⟩ := List.any_eq_true.mp hb
    exact absurd (of_decide_eq_true e) (h k (List.mem_range.mp hk))
theorem note_room {c : Co} (i : IC c) {x y : Int32} (hb : mnB c.n x y = true) (hn : ∀ k, k < c.m 2 → ¬ (c.r 2 k 0 = x ∧ c.r 2 k 1 = y)) : c.m 2 < 69 := by
  have h4 := i.n4
  have hp : 2 ^ c.n ≤ 2 ^ 4 := Nat.pow_le_pow_right (by omega) h4
  obtain ⟨R, C, e1, e2, r1, r2, c1, c2, rc⟩ := mnB_spec h4 hb
  have key := fun k (hk : k < c.m 2) => i.nt k hk
  have := pigeon (c.m 2 + 1) keys (fun k => if k = c.m 2 then 16 * R + C else 16 * (c.r 2 k 0).toNatClampNeg + (c.r 2 k 1).toNatClampNeg) (fun k hk => by
    by_cases e : k = c.m 2
    · rw [if_pos e]; exact keys_in r1 (by omega) c1 (by omega) rc
    · rw [if_neg e]
      obtain ⟨R2, C2, f1, f2, g1, g2, g3, g4, g5⟩ := key k (by omega)
      rw [f1, f2, nI_clamp (by omega), nI_clamp (by omega)]
      exact keys_in g1 (by omega) g3 (by omega) g5) (fun k l hk hl => by
    rw [if_neg (show ¬ k = c.m 2 by omega)]
    obtain ⟨R2, C2, f1, f2, g1, g2, g3, g4, g5⟩ := key k (by omega)
    rw [f1, f2, nI_clamp (by omega), nI_clamp (by omega)]
    intro z
    by_cases e : l = c.m 2
    · rw [if_pos e] at z
      refine hn k (by omega) ⟨f1.trans ?_, f2.trans ?_⟩
      · rw [e1, show R2 = R by omega]
      · rw [e2, show C2 = C by omega]
    · rw [if_neg e] at z
      obtain ⟨R3, C3, k1, k2, j1, j2, j3, j4, j5⟩ := key l (by omega)
      rw [k1, k2, nI_clamp (by omega), nI_clamp (by omega)] at z
      refine i.nd k l hk (by omega) ⟨?_, ?_⟩
      · rw [f1, k1, show R2 = R3 by omega]
      · rw [f2, k2, show C2 = C3 by omega])
  rw [keys_len] at this
  omega
def oMinor (s : St) (x y : Int32) : Int64 × St := if mnB s.c.n x y = true then (mnr s.c.E x.toNatClampNeg y.toNatClampNeg, if hld (s.c.r 2) (s.c.m 2) x y = true then s else s.sc (s.c.add 2 x y (nI 0))) else (noJ, s)
def oSum (s : St) (k : Int32) : Int64 × St := (if rgB (nI 0) (nI s.c.n) k = true then sJ (fun R => if pop4 R = k.toNatClampNeg then mnr s.c.E R R else 0) (2 ^ s.c.n) else noJ, s)
def o01 (p : Int32) : Bool := decide (p = nI 0 ∨ p = nI 1)
def oOdds (s : St) (k p : Int32) : Int64 × St := (if rgB (nI 1) (nI s.c.n) k = true ∧ o01 p = true then lowT (lN (abN s.c.E s.c.n k.toNatClampNeg)) (lN (sbN s.c.n k.toNatClampNeg * sbN s.c.n k.toNatClampNeg)) p else noJ, s)
def tot (E : Nat → Int64) (n : Nat) : Int64 := sJ (fun i => sJ (fun j => E (4 * i + j)) n) n
def oMean (s : St) (p : Int32) : Int64 × St := (if o01 p = true then lowT (tot s.c.E s.c.n) (lN (s.c.n * s.c.n)) p else noJ, s)
/-- unlike ones, as they come -/
def un1 (E : Nat → Int64) (k R C : Nat) (l : List Int64) : List Int64 := if pop4 R = k ∧ pop4 C = k then (if mnr E R C ∈ l then l else l ++ [mnr E R C]) else l
def unC (E : Nat → Int64) (k R : Nat) (l : List Int64) : Nat → List Int64
  | 0 => l
  | C + 1 => un1 E k R C (unC E k R l C)
def unR (E : Nat → Int64) (k N : Nat) : Nat → List Int64
  | 0 => []
  | R + 1 => unC E k R (unR E k N R) N
def oUnlike (s : St) (k : Int32) : Int32 × St := (if rgB (nI 1) (nI s.c.n) k = true then nI (unR s.c.E k.toNatClampNeg (2 ^ s.c.n) (2 ^ s.c.n)).length else -(nI 2), s)
theorem un1_len (E : Nat → Int64) (k R C : Nat) (l : List Int64) : l.length ≤ (un1 E k R C l).length ∧ (un1 E k R C l).length ≤ l.length + (if pop4 R = k ∧ pop4 C = k then 1 else 0) := by
  unfold un1
  by_cases c : pop4 R = k ∧ pop4 C = k
  · rw [if_pos c, if_pos c]
    by_cases c2 : mnr E R C ∈ l
    · rw [if_pos c2]; omega
    · rw [if_neg c2, List.length_append]; simp
  · rw [if_neg c, if_neg c]; omega
theorem unC_len (E : Nat → Int64) (k R : Nat) (l : List Int64) : ∀ C, l.length ≤ (unC E k R l C).length ∧ (unC E k R l C).length ≤ l.length + sm (fun C => if pop4 R = k ∧ pop4 C = k then 1 else 0) C
  | 0 => ⟨Nat.le_refl _, Nat.le_refl _⟩
  | C + 1 => by
    have h1 := unC_len E k R l C
    have h2 := un1_len E k R C (unC E k R l C)
    rw [unC, sm]
    omega
theorem unC_mono (E : Nat → Int64) (k R : Nat) (l : List Int64) (C : Nat) : ∀ m, (unC E k R l C).length ≤ (unC E k R l (C + m)).length
  | 0 => Nat.le_refl _
  | m + 1 => by
    have h1 := unC_mono E k R l C m
    have h2 := un1_len E k R (C + m) (unC E k R l (C + m))
    rw [show C + (m + 1) = C + m + 1 by omega, unC]
    omega
theorem unR_len (E : Nat → Int64) (k N : Nat) : ∀ R, (unR E k N R).length ≤ sm (fun R => sm (fun C => if pop4 R = k ∧ pop4 C = k then 1 else 0) N) R
  | 0 => Nat.le_refl _
  | R + 1 => by
    have h1 := unR_len E k N R
    have h2 := unC_len E k R (unR E k N R) N
    rw [unR, sm]
    omega
theorem unR_mono (E : Nat → Int64) (k N R : Nat) : ∀ m, (unR E k N R).length ≤ (unR E k N (R + m)).length
  | 0 => Nat.le_refl _
  | m + 1 => by
    have h1 := unR_mono E k N R m
    have h2 := unC_len E k (R + m) (unR E k N (R + m)) N
    rw [show R + (m + 1) = R + m + 1 by omega, unR]
    omega
theorem un_36 : ∀ n, n < 5 → ∀ k, k < 5 → 1 ≤ k → sm (fun R => sm (fun C => if pop4 R = k ∧ pop4 C = k then 1 else 0) (2 ^ n)) (2 ^ n) ≤ 36 := by decide +kernel
theorem un_le {E : Nat → Int64} {n k R C : Nat} (h4 : n ≤ 4) (h1 : 1 ≤ k) (hk : k ≤ 4) (hR : R < 2 ^ n) (hC : C ≤ 2 ^ n) : (unC E k R (unR E k (2 ^ n) R) C).length ≤ 36 := by
  have a1 := un_36 n (by omega) k (by omega) h1
  have a2 := unR_len E k (2 ^ n) (2 ^ n)
  have a3 := unR_mono E k (2 ^ n) (R + 1) (2 ^ n - (R + 1))
  have a4 := unC_mono E k R (unR E k (2 ^ n) R) C (2 ^ n - C)
  rw [show R + 1 + (2 ^ n - (R + 1)) = 2 ^ n by omega, unR] at a3
  rw [show C + (2 ^ n - C) = 2 ^ n by omega] at a4
  omega
theorem un1_congr {E E' : Nat → Int64} {n k R C : Nat} (h4 : n ≤ 4) (h : ∀ i j, i < n → j < n → E (4 * i + j) = E' (4 * i + j)) (hR : R < 2 ^ n) (hC : C < 2 ^ n) (l : List Int64) : un1 E k R C l = un1 E' k R C l := by
  unfold un1
  rw [mnr_congr h4 hR hC h]
theorem unC_congr {E E' : Nat → Int64} {n k R : Nat} (h4 : n ≤ 4) (h : ∀ i j, i < n → j < n → E (4 * i + j) = E' (4 * i + j)) (hR : R < 2 ^ n) (l : List Int64) : ∀ C, C ≤ 2 ^ n → unC E k R l C = unC E' k R l C
  | 0, _ => rfl
  | C + 1, hC => by rw [unC, unC, unC_congr h4 h hR l C (by omega), un1_congr h4 h hR (by omega)]
theorem unR_congr {E E' : Nat → Int64} {n k : Nat} (h4 : n ≤ 4) (h : ∀ i j, i < n → j < n → E (4 * i + j) = E' (4 * i + j)) : ∀ R, R ≤ 2 ^ n → unR E k (2 ^ n) R = unR E' k (2 ^ n) R
  | 0, _ => rfl
  | R + 1, hR => by rw [unR, unR, unR_congr h4 h R (by omega), unC_congr h4 h (by omega) _ _ (Nat.le_refl _)]
def lh (l : List Int64) (W : Nat → Int64) : Prop := ∀ k, k < l.length → W k = l.getD k 0
theorem lh_add {l : List Int64} {W : Nat → Int64} (h : lh l W) (v : Int64) : lh (l ++ [v]) (up W l.length v) := by
  intro k hk
  rw [List.length_append] at hk
  simp only [List.length_cons, List.length_nil, Nat.zero_add] at hk
  by_cases e : k = l.length
  · subst e
    rw [up_s, List.getD_eq_getElem?_getD, List.getElem?_append_right (Nat.le_refl _), Nat.sub_self]
    rfl
  · rw [up_n e, h k (by omega), List.getD_eq_getElem?_getD, List.getD_eq_getElem?_getD, List.getElem?_append_left (by omega)]
theorem lh_in {l : List Int64} {W : Nat → Int64} (h : lh l W) {v : Int64} {k : Nat} (hk : k < l.length) (e : W k = v) : v ∈ l := by
  rw [← e, h k hk, List.getD_eq_getElem?_getD, List.getElem?_eq_getElem hk]
  exact List.getElem_mem hk
theorem lh_out {l : List Int64} {W : Nat → Int64} (h : lh l W) {v : Int64} (e : ∀ k, k < l.length → W k ≠ v) : v ∉ l := by
  intro z
  obtain ⟨k, hk, e2⟩ := List.getElem_of_mem z
  refine e k hk ?_
  rw [h k hk, List.getD_eq_getElem?_getD, List.getElem?_eq_getElem hk]
  exact e2
section XD
variable {S : Cl} {τ : Nat → Int32} {A : Nat → Nat → Int32} {B : Nat → Nat → Int64}
variable {d n : Nat} {Q : Option Value → Hp → Prop}
theorem cx_isOrder (hn : τ (100 * 3 + 2) = nI n) (h4 : n ≤ 4) {k : Int32} (q : Q (some (.int (bI (rgB (nI 1) (nI n) k)))) (HH S τ A B)) : CC (d + 1) M_T_isOrder [.ref 1, .int k] (HH S τ A B) Q := by
  refine CC.of rfl ?_
  refine VV.s rfl ?_
  refine VV.s rfl ?_
  refine VV.s rfl ?_
  refine VV.i (fun c1 => ?_) (fun c1 => ?_)
  · rw [rgB_lo c1] at q
    repeat refine VV.s rfl ?_
    exact VV.r rfl q
  · repeat refine VV.s rfl ?_
    (refine VV.c rfl ?_; refine c_lines (g := 3) rfl hn h4 ?_)
    refine VV.s rfl ?_
    refine VV.i (fun c2 => ?_) (fun c2 => ?_)
    · rw [rgB_hi c2] at q
      repeat refine VV.s rfl ?_
      exact VV.r rfl q
    · rw [rgB_in c1 c2] at q
      repeat refine VV.s rfl ?_
      exact VV.r rfl q
theorem cx_is01 {p : Int32} {h : Hp} (q : Q (some (.int (bI (o01 p)))) h) : CC d M_T_isNoughtOrOne [.int p] h Q := by
  unfold o01 at q
  refine CC.of rfl ?_
  refine VV.s rfl ?_
  refine VV.s rfl ?_
  refine VV.i (fun c1 => ?_) (fun c1 => ?_)
  · rw [decide_eq_true (show p = nI 0 ∨ p = nI 1 from Or.inl c1)] at q
    repeat refine VV.s rfl ?_
    exact VV.r rfl q
  · refine VV.s rfl ?_
    refine VV.s rfl ?_
    refine VV.s rfl ?_
    refine VV.i (fun c2 => ?_) (fun c2 => ?_)
    · rw [decide_eq_true (show p = nI 0 ∨ p = nI 1 from Or.inr c2)] at q
      repeat refine VV.s rfl ?_
      exact VV.r rfl q
    · rw [decide_eq_false (show ¬ (p = nI 0 ∨ p = nI 1) from fun z => z.elim c1 c2)] at q
      repeat refine VV.s rfl ?_
      exact VV.r rfl q
theorem cx_keep {l : List Int64} {v : Int64} (hl : lh l (B 44)) (h36 : l.length ≤ 36) (q1 : v ∈ l → Q (some (.int (nI l.length))) (HH S τ A B)) (q2 : v ∉ l → l.length < 36 ∧ Q (some (.int (nI (l.length + 1)))) (HH S τ A (up B 44 (up (B 44) l.length v)))) : CC d M_T_keepUnlike [.ref 1, .int (nI l.length), .long v] (HH S τ A B) Q := by
  refine CC.of rfl ?_
  have V := VV.inv (fun k (_ : Unit) => ∀ j, j < k → B 44 j ≠ v) (fun k _ => VV d M_T_keepUnlike 3 [some (.ref 1), some (.int (nI l.length)), some (.long v), none, some (.int (nI k))] [] (HH S τ A B) Q) l.length ?_ ?_ l.length 0 () (by omega) (fun j hj => by omega)
  · repeat (first | exact V | refine VV.add rfl ?_ | refine VV.inc rfl rfl rfl ?_ | refine VV.mul rfl ?_ | refine VV.sub rfl (by omega) ?_ | refine VV.shl1 rfl (by omega) ?_ | refine VV.shl rfl ⟨by omega, by omega⟩ ?_ | refine VV.shr rfl ⟨by omega, by omega⟩ ?_ | refine VV.and rfl ?_ | refine VV.div rfl ⟨by omega, by omega, by omega⟩ ?_ | refine VV.rem rfl ⟨by omega, by omega, by omega⟩ ?_ | refine VV.s rfl ?_  | refine VV.b (b_ltT (by omega) (by omega)) ?_ | refine VV.b (b_ltF (by omega) (by omega)) ?_ | refine VV.b (b_geT (by omega) (by omega)) ?_ | refine VV.b (b_geF (by omega) (by omega)) ?_ | refine VV.b (b_gtT (by omega) (by omega)) ?_ | refine VV.b (b_gtF (by omega) (by omega)) ?_ | refine VV.b (b_leT (by omega) (by omega)) ?_ | refine VV.b (b_leF (by omega) (by omega)) ?_ | refine VV.b (b_eqT (by omega) (by omega)) ?_ | refine VV.b (b_eqF (by omega) (by omega)) ?_ | refine VV.b (b_neT (by omega) (by omega)) ?_ | refine VV.b (b_neF (by omega) (by omega)) ?_)
  · intro k _ hk hI nxt
    repeat (first | refine VV.jln (a := 44) (n := 36) rfl rfl rfl ?_ | refine VV.add rfl ?_ | refine VV.inc rfl rfl rfl ?_ | refine VV.mul rfl ?_ | refine VV.sub rfl (by omega) ?_ | refine VV.shl1 rfl (by omega) ?_ | refine VV.shl rfl ⟨by omega, by omega⟩ ?_ | refine VV.shr rfl ⟨by omega, by omega⟩ ?_ | refine VV.and rfl ?_ | refine VV.div rfl ⟨by omega, by omega, by omega⟩ ?_ | refine VV.rem rfl ⟨by omega, by omega, by omega⟩ ?_ | refine VV.s rfl ?_  | refine VV.b (b_ltT (by omega) (by omega)) ?_ | refine VV.b (b_ltF (by omega) (by omega)) ?_ | refine VV.b (b_geT (by omega) (by omega)) ?_ | refine VV.b (b_geF (by omega) (by omega)) ?_ | refine VV.b (b_gtT (by omega) (by omega)) ?_ | refine VV.b (b_gtF (by omega) (by omega)) ?_ | refine VV.b (b_leT (by omega) (by omega)) ?_ | refine VV.b (b_leF (by omega) (by omega)) ?_ | refine VV.b (b_eqT (by omega) (by omega)) ?_ | refine VV.b (b_eqF (by omega) (by omega)) ?_ | refine VV.b (b_neT (by omega) (by omega)) ?_ | refine VV.b (b_neF (by omega) (by omega)) ?_)
    refine VV.ja rfl rfl rfl (show k < 36 by omega) ?_
    repeat refine VV.s rfl ?_
    refine VV.cne (fun c => ?_) (fun c => ?_)
    · repeat refine VV.s rfl ?_
      exact VV.r rfl (q1 (lh_in hl hk c))
    · have := nxt () (fun j hj => by
        by_cases e : j = k
        · rw [e]; exact c
        · exact hI j (by omega))
      repeat (first | exact this | refine VV.add rfl ?_ | refine VV.inc rfl rfl rfl ?_ | refine VV.mul rfl ?_ | refine VV.sub rfl (by omega) ?_ | refine VV.shl1 rfl (by omega) ?_ | refine VV.shl rfl ⟨by omega, by omega⟩ ?_ | refine VV.shr rfl ⟨by omega, by omega⟩ ?_ | refine VV.and rfl ?_ | refine VV.div rfl ⟨by omega, by omega, by omega⟩ ?_ | refine VV.rem rfl ⟨by omega, by omega, by omega⟩ ?_ | refine VV.s rfl ?_  | refine VV.b (b_ltT (by omega) (by omega)) ?_ | refine VV.b (b_ltF (by omega) (by omega)) ?_ | refine VV.b (b_geT (by omega) (by omega)) ?_ | refine VV.b (b_geF (by omega) (by omega)) ?_ | refine VV.b (b_gtT (by omega) (by omega)) ?_ | refine VV.b (b_gtF (by omega) (by omega)) ?_ | refine VV.b (b_leT (by omega) (by omega)) ?_ | refine VV.b (b_leF (by omega) (by omega)) ?_ | refine VV.b (b_eqT (by omega) (by omega)) ?_ | refine VV.b (b_eqF (by omega) (by omega)) ?_ | refine VV.b (b_neT (by omega) (by omega)) ?_ | refine VV.b (b_neF (by omega) (by omega)) ?_)
  · intro _ hI
    obtain ⟨h1, q3⟩ := q2 (lh_out hl hI)
    repeat (first | refine VV.jln (a := 44) (n := 36) rfl rfl rfl ?_ | refine VV.add rfl ?_ | refine VV.inc rfl rfl rfl ?_ | refine VV.mul rfl ?_ | refine VV.sub rfl (by omega) ?_ | refine VV.shl1 rfl (by omega) ?_ | refine VV.shl rfl ⟨by omega, by omega⟩ ?_ | refine VV.shr rfl ⟨by omega, by omega⟩ ?_ | refine VV.and rfl ?_ | refine VV.div rfl ⟨by omega, by omega, by omega⟩ ?_ | refine VV.rem rfl ⟨by omega, by omega, by omega⟩ ?_ | refine VV.s rfl ?_  | refine VV.b (b_ltT (by omega) (by omega)) ?_ | refine VV.b (b_ltF (by omega) (by omega)) ?_ | refine VV.b (b_geT (by omega) (by omega)) ?_ | refine VV.b (b_geF (by omega) (by omega)) ?_ | refine VV.b (b_gtT (by omega) (by omega)) ?_ | refine VV.b (b_gtF (by omega) (by omega)) ?_ | refine VV.b (b_leT (by omega) (by omega)) ?_ | refine VV.b (b_leF (by omega) (by omega)) ?_ | refine VV.b (b_eqT (by omega) (by omega)) ?_ | refine VV.b (b_eqF (by omega) (by omega)) ?_ | refine VV.b (b_neT (by omega) (by omega)) ?_ | refine VV.b (b_neF (by omega) (by omega)) ?_)
    refine VV.js rfl rfl rfl (show l.length < 36 by omega) ?_
    repeat (first | refine VV.add rfl ?_ | refine VV.inc rfl rfl rfl ?_ | refine VV.mul rfl ?_ | refine VV.sub rfl (by omega) ?_ | refine VV.shl1 rfl (by omega) ?_ | refine VV.shl rfl ⟨by omega, by omega⟩ ?_ | refine VV.shr rfl ⟨by omega, by omega⟩ ?_ | refine VV.and rfl ?_ | refine VV.div rfl ⟨by omega, by omega, by omega⟩ ?_ | refine VV.rem rfl ⟨by omega, by omega, by omega⟩ ?_ | refine VV.s rfl ?_  | refine VV.b (b_ltT (by omega) (by omega)) ?_ | refine VV.b (b_ltF (by omega) (by omega)) ?_ | refine VV.b (b_geT (by omega) (by omega)) ?_ | refine VV.b (b_geF (by omega) (by omega)) ?_ | refine VV.b (b_gtT (by omega) (by omega)) ?_ | refine VV.b (b_gtF (by omega) (by omega)) ?_ | refine VV.b (b_leT (by omega) (by omega)) ?_ | refine VV.b (b_leF (by omega) (by omega)) ?_ | refine VV.b (b_eqT (by omega) (by omega)) ?_ | refine VV.b (b_eqF (by omega) (by omega)) ?_ | refine VV.b (b_neT (by omega) (by omega)) ?_ | refine VV.b (b_neF (by omega) (by omega)) ?_)
    exact VV.r rfl q3
end XD
theorem lN_b {k : Nat} (h : k < 2 ^ 63) : (lN k).toInt.natAbs = k := by rw [pk_lT h]; rfl
theorem sJ_b {f : Nat → Int64} {b : Nat} : ∀ k, (∀ j, j < k → (f j).toInt.natAbs ≤ b) → k * b < 2 ^ 63 → (sJ f k).toInt.natAbs ≤ k * b
  | 0, _, _ => by rw [sJ, show (0 : Int64).toInt.natAbs = 0 from rfl]; exact Nat.zero_le _
  | k + 1, h, hb => by
    rw [Nat.succ_mul] at hb ⊢
    have h1 := sJ_b k (fun j hj => h j (by omega)) (by omega)
    have h2 := h k (by omega)
    rw [sJ, i64_add (by omega)]
    have := Int.natAbs_add_le (sJ f k).toInt (f k).toInt
    omega
theorem tot_b {E : Nat → Int64} {n : Nat} (h4 : n ≤ 4) (h : ∀ i j, i < n → j < n → bd (E (4 * i + j)) 99) : (tot E n).toInt.natAbs ≤ n * (n * 99) := by
  have h1 : n * 99 ≤ 4 * 99 := Nat.mul_le_mul_right _ h4
  have h2 : n * (n * 99) ≤ 4 * (4 * 99) := Nat.mul_le_mul h4 h1
  refine sJ_b n (fun i hi => sJ_b n (fun j hj => ?_) (by omega)) (by omega)
  have := h i j hi hj
  unfold bd at this
  omega
theorem sb_pos : ∀ n, n < 5 → ∀ k, k < 5 → 1 ≤ k → k ≤ n → 1 ≤ sbN n k ∧ sbN n k ≤ 6 := by decide +kernel
theorem abN_le (E : Nat → Int64) {n : Nat} (h4 : n ≤ 4) (k : Nat) : abN E n k ≤ 256 := by
  have hp : 2 ^ n ≤ 2 ^ 4 := Nat.pow_le_pow_right (by omega) h4
  have h1 : ∀ R, R < 2 ^ n → sm (abC E k R) (2 ^ n) ≤ 16 := fun R _ => by
    have := sm_le (f := abC E k R) (b := 1) (n := 2 ^ n) (fun C _ => by unfold abC; split <;> omega)
    omega
  have h2 := sm_le (f := fun R => sm (abC E k R) (2 ^ n)) (b := 16) (n := 2 ^ n) h1
  have h3 : abN E n k ≤ 2 ^ n * 16 := h2
  omega
section X6
variable {d : Nat} {s : St}
theorem x_minor (i : IV s) {x y : Int32} : KXJ (d + 4) M_T_minor [.ref 1, .int x, .int y] s (oMinor s x y) := by
  intro S τ A B Q h q
  unfold oMinor at q
  have hn : τ (100 * 3 + 2) = nI s.c.n := h.now.n
  have h4 := i.c.n4
  have hm : τ (100 * 9 + 2) = nI (s.c.m 2) := h.now.note.h
  have hp : 2 ^ s.c.n ≤ 2 ^ 4 := Nat.pow_le_pow_right (by omega) h4
  refine CC.of rfl ?_
  repeat refine VV.s rfl ?_
  (refine VV.c rfl ?_; refine c_hasMinor (g := 3) rfl hn h4 ?_)
  cases hb : mnB s.c.n x y with
  | false =>
    rw [hb] at q
    repeat (first | refine VV.add rfl ?_ | refine VV.inc rfl rfl rfl ?_ | refine VV.mul rfl ?_ | refine VV.sub rfl (by omega) ?_ | refine VV.shl1 rfl (by omega) ?_ | refine VV.shl rfl ⟨by omega, by omega⟩ ?_ | refine VV.shr rfl ⟨by omega, by omega⟩ ?_ | refine VV.and rfl ?_ | refine VV.div rfl ⟨by omega, by omega, by omega⟩ ?_ | refine VV.rem rfl ⟨by omega, by omega, by omega⟩ ?_ | refine VV.s rfl ?_  | refine VV.b (b_ltT (by omega) (by omega)) ?_ | refine VV.b (b_ltF (by omega) (by omega)) ?_ | refine VV.b (b_geT (by omega) (by omega)) ?_ | refine VV.b (b_geF (by omega) (by omega)) ?_ | refine VV.b (b_gtT (by omega) (by omega)) ?_ | refine VV.b (b_gtF (by omega) (by omega)) ?_ | refine VV.b (b_leT (by omega) (by omega)) ?_ | refine VV.b (b_leF (by omega) (by omega)) ?_ | refine VV.b (b_eqT (by omega) (by omega)) ?_ | refine VV.b (b_eqF (by omega) (by omega)) ?_ | refine VV.b (b_neT (by omega) (by omega)) ?_ | refine VV.b (b_neF (by omega) (by omega)) ?_)
    exact VV.r rfl (q τ A B h FX.refl)
  | true =>
    rw [hb, if_pos rfl] at q
    obtain ⟨R, C, e1, e2, r1, r2, c1, c2, rc⟩ := mnB_spec h4 hb
    have em : mnr (B (3 + 1)) R C = mnr s.c.E x.toNatClampNeg y.toNatClampNeg := by
      rw [e1, e2, nI_clamp (by omega), nI_clamp (by omega)]
      exact mnr_congr h4 r2 c2 (fun a b ha hb => h.now.E a b ha hb)
    show VV _ _ _ _ [.int (nI 1)] _ _
    repeat (first | refine VV.add rfl ?_ | refine VV.inc rfl rfl rfl ?_ | refine VV.mul rfl ?_ | refine VV.sub rfl (by omega) ?_ | refine VV.shl1 rfl (by omega) ?_ | refine VV.shl rfl ⟨by omega, by omega⟩ ?_ | refine VV.shr rfl ⟨by omega, by omega⟩ ?_ | refine VV.and rfl ?_ | refine VV.div rfl ⟨by omega, by omega, by omega⟩ ?_ | refine VV.rem rfl ⟨by omega, by omega, by omega⟩ ?_ | refine VV.s rfl ?_  | refine VV.b (b_ltT (by omega) (by omega)) ?_ | refine VV.b (b_ltF (by omega) (by omega)) ?_ | refine VV.b (b_geT (by omega) (by omega)) ?_ | refine VV.b (b_geF (by omega) (by omega)) ?_ | refine VV.b (b_gtT (by omega) (by omega)) ?_ | refine VV.b (b_gtF (by omega) (by omega)) ?_ | refine VV.b (b_leT (by omega) (by omega)) ?_ | refine VV.b (b_leF (by omega) (by omega)) ?_ | refine VV.b (b_eqT (by omega) (by omega)) ?_ | refine VV.b (b_eqF (by omega) (by omega)) ?_ | refine VV.b (b_neT (by omega) (by omega)) ?_ | refine VV.b (b_neF (by omega) (by omega)) ?_)
    (refine VV.c rfl ?_; refine cr_holds (o := 9) rfl hm i.c.nm (fun z => ?_) (fun z => ?_))
    · obtain ⟨k, hk, z1, z2⟩ := z
      rw [hld_t ⟨k, hk, (h.now.note.r k 0 hk (by omega)).symm.trans z1, (h.now.note.r k 1 hk (by omega)).symm.trans z2⟩, if_pos rfl] at q
      rw [e1, e2] at q ⊢
      repeat (first | refine VV.add rfl ?_ | refine VV.inc rfl rfl rfl ?_ | refine VV.mul rfl ?_ | refine VV.sub rfl (by omega) ?_ | refine VV.shl1 rfl (by omega) ?_ | refine VV.shl rfl ⟨by omega, by omega⟩ ?_ | refine VV.shr rfl ⟨by omega, by omega⟩ ?_ | refine VV.and rfl ?_ | refine VV.div rfl ⟨by omega, by omega, by omega⟩ ?_ | refine VV.rem rfl ⟨by omega, by omega, by omega⟩ ?_ | refine VV.s rfl ?_  | refine VV.b (b_ltT (by omega) (by omega)) ?_ | refine VV.b (b_ltF (by omega) (by omega)) ?_ | refine VV.b (b_geT (by omega) (by omega)) ?_ | refine VV.b (b_geF (by omega) (by omega)) ?_ | refine VV.b (b_gtT (by omega) (by omega)) ?_ | refine VV.b (b_gtF (by omega) (by omega)) ?_ | refine VV.b (b_leT (by omega) (by omega)) ?_ | refine VV.b (b_leF (by omega) (by omega)) ?_ | refine VV.b (b_eqT (by omega) (by omega)) ?_ | refine VV.b (b_eqF (by omega) (by omega)) ?_ | refine VV.b (b_neT (by omega) (by omega)) ?_ | refine VV.b (b_neF (by omega) (by omega)) ?_)
      (refine VV.c rfl ?_; refine c_det (g := 3) rfl hn h4 r2 c2 rc (fun f => ?_))
      rw [em, e1, e2]
      exact VV.r rfl (q _ _ _ (h.b5 f) (FX.b5 f))
    · have nin : ∀ k, k < s.c.m 2 → ¬ (s.c.r 2 k 0 = x ∧ s.c.r 2 k 1 = y) := fun k hk z2 => z k hk ⟨(h.now.note.r k 0 hk (by omega)).trans z2.1, (h.now.note.r k 1 hk (by omega)).trans z2.2⟩
      have room := note_room i.c hb nin
      rw [hld_f nin] at q
      repeat (first | refine VV.add rfl ?_ | refine VV.inc rfl rfl rfl ?_ | refine VV.mul rfl ?_ | refine VV.sub rfl (by omega) ?_ | refine VV.shl1 rfl (by omega) ?_ | refine VV.shl rfl ⟨by omega, by omega⟩ ?_ | refine VV.shr rfl ⟨by omega, by omega⟩ ?_ | refine VV.and rfl ?_ | refine VV.div rfl ⟨by omega, by omega, by omega⟩ ?_ | refine VV.rem rfl ⟨by omega, by omega, by omega⟩ ?_ | refine VV.s rfl ?_  | refine VV.b (b_ltT (by omega) (by omega)) ?_ | refine VV.b (b_ltF (by omega) (by omega)) ?_ | refine VV.b (b_geT (by omega) (by omega)) ?_ | refine VV.b (b_geF (by omega) (by omega)) ?_ | refine VV.b (b_gtT (by omega) (by omega)) ?_ | refine VV.b (b_gtF (by omega) (by omega)) ?_ | refine VV.b (b_leT (by omega) (by omega)) ?_ | refine VV.b (b_leF (by omega) (by omega)) ?_ | refine VV.b (b_eqT (by omega) (by omega)) ?_ | refine VV.b (b_eqF (by omega) (by omega)) ?_ | refine VV.b (b_neT (by omega) (by omega)) ?_ | refine VV.b (b_neF (by omega) (by omega)) ?_)
      (refine VV.c rfl ?_; refine cr_add (o := 9) rfl hm room ?_)
      refine VV.s rfl ?_
      rw [e1, e2] at q ⊢
      repeat (first | refine VV.add rfl ?_ | refine VV.inc rfl rfl rfl ?_ | refine VV.mul rfl ?_ | refine VV.sub rfl (by omega) ?_ | refine VV.shl1 rfl (by omega) ?_ | refine VV.shl rfl ⟨by omega, by omega⟩ ?_ | refine VV.shr rfl ⟨by omega, by omega⟩ ?_ | refine VV.and rfl ?_ | refine VV.div rfl ⟨by omega, by omega, by omega⟩ ?_ | refine VV.rem rfl ⟨by omega, by omega, by omega⟩ ?_ | refine VV.s rfl ?_  | refine VV.b (b_ltT (by omega) (by omega)) ?_ | refine VV.b (b_ltF (by omega) (by omega)) ?_ | refine VV.b (b_geT (by omega) (by omega)) ?_ | refine VV.b (b_geF (by omega) (by omega)) ?_ | refine VV.b (b_gtT (by omega) (by omega)) ?_ | refine VV.b (b_gtF (by omega) (by omega)) ?_ | refine VV.b (b_leT (by omega) (by omega)) ?_ | refine VV.b (b_leF (by omega) (by omega)) ?_ | refine VV.b (b_eqT (by omega) (by omega)) ?_ | refine VV.b (b_eqF (by omega) (by omega)) ?_ | refine VV.b (b_neT (by omega) (by omega)) ?_ | refine VV.b (b_neF (by omega) (by omega)) ?_)
      (refine VV.c rfl ?_; refine c_det (g := 3) rfl (show up τ (100 * 9 + 2) (nI (s.c.m 2 + 1)) (100 * 3 + 2) = nI s.c.n from hn) h4 r2 c2 rc (fun f => ?_))
      rw [em, e1, e2]
      have f9 : FN τ A B (up τ (100 * 9 + 2) (nI (s.c.m 2 + 1))) (up A (9 + 1) (up (up (up (A (9 + 1)) (3 * s.c.m 2) (nI R)) (3 * s.c.m 2 + 1) (nI C)) (3 * s.c.m 2 + 2) (nI 0))) (up B 5 f) := FN.ut (by decide) (FN.ua (by decide) (FN.ub (by decide) FN.refl))
      exact VV.r rfl (q _ _ _ (h.fn f9 (RS.mk h.now.n h.now.E h.now.V h.now.chip (h.now.note.add (x := nI R) (y := nI C) (z := nI 0)) h.now.seen h.now.event h.now.book)) f9.fx)
theorem x_sum (i : IV s) {k : Int32} : KXJ (d + 4) M_T_sum [.ref 1, .int k] s (oSum s k) := by
  intro S τ A B Q h q
  unfold oSum at q
  have hn : τ (100 * 3 + 2) = nI s.c.n := h.now.n
  have h4 := i.c.n4
  have hp : 2 ^ s.c.n ≤ 2 ^ 4 := Nat.pow_le_pow_right (by omega) h4
  refine CC.of rfl ?_
  refine VV.s rfl ?_
  refine VV.s rfl ?_
  refine VV.i (fun c1 => ?_) (fun c1 => ?_)
  · rw [rgB_lo (show k < nI 0 from c1)] at q
    repeat refine VV.s rfl ?_
    exact VV.r rfl (q τ A B h FX.refl)
  repeat refine VV.s rfl ?_
  (refine VV.c rfl ?_; refine c_lines (g := 3) rfl hn h4 ?_)
  refine VV.s rfl ?_
  refine VV.i (fun c2 => ?_) (fun c2 => ?_)
  · rw [rgB_hi c2] at q
    repeat refine VV.s rfl ?_
    exact VV.r rfl (q τ A B h FX.refl)
  rw [rgB_in (show ¬ k < nI 0 from c1) c2, if_pos rfl] at q
  obtain ⟨a, ha, rfl⟩ : ∃ a, a < 5 ∧ k = nI a := by
    rcases nI_or k with z | ⟨a, ha, rfl⟩
    · exact absurd z c1
    · exact ⟨a, Nat.lt_of_not_le (fun z => c2 ((nI_ltI (by omega) ha).mpr (by omega))), rfl⟩
  rw [nI_clamp (by omega)] at q
  have V := VV.inv (fun R (t : Int64) => t = sJ (fun R => if pop4 R = a then mnr s.c.E R R else 0) R) (fun R t => ∀ f, VV (d + 4) M_T_sum 27 [some (.ref 1), some (.int (nI a)), some (.long t), none, some (.int (nI R))] [] (HH S τ A (up B 5 f)) Q) (2 ^ s.c.n) ?_ ?_ (2 ^ s.c.n) 0 0 (by omega) rfl (B 5)
  · rw [up_id] at V
    repeat (first | exact V | refine VV.add rfl ?_ | refine VV.inc rfl rfl rfl ?_ | refine VV.mul rfl ?_ | refine VV.sub rfl (by omega) ?_ | refine VV.shl1 rfl (by omega) ?_ | refine VV.shl rfl ⟨by omega, by omega⟩ ?_ | refine VV.shr rfl ⟨by omega, by omega⟩ ?_ | refine VV.and rfl ?_ | refine VV.div rfl ⟨by omega, by omega, by omega⟩ ?_ | refine VV.rem rfl ⟨by omega, by omega, by omega⟩ ?_ | refine VV.s rfl ?_  | refine VV.b (b_ltT (by omega) (by omega)) ?_ | refine VV.b (b_ltF (by omega) (by omega)) ?_ | refine VV.b (b_geT (by omega) (by omega)) ?_ | refine VV.b (b_geF (by omega) (by omega)) ?_ | refine VV.b (b_gtT (by omega) (by omega)) ?_ | refine VV.b (b_gtF (by omega) (by omega)) ?_ | refine VV.b (b_leT (by omega) (by omega)) ?_ | refine VV.b (b_leF (by omega) (by omega)) ?_ | refine VV.b (b_eqT (by omega) (by omega)) ?_ | refine VV.b (b_eqF (by omega) (by omega)) ?_ | refine VV.b (b_neT (by omega) (by omega)) ?_ | refine VV.b (b_neF (by omega) (by omega)) ?_)
  · intro R t hR ht nxt f
    have p4 := pp4 R
    repeat (first | refine VV.add rfl ?_ | refine VV.inc rfl rfl rfl ?_ | refine VV.mul rfl ?_ | refine VV.sub rfl (by omega) ?_ | refine VV.shl1 rfl (by omega) ?_ | refine VV.shl rfl ⟨by omega, by omega⟩ ?_ | refine VV.shr rfl ⟨by omega, by omega⟩ ?_ | refine VV.and rfl ?_ | refine VV.div rfl ⟨by omega, by omega, by omega⟩ ?_ | refine VV.rem rfl ⟨by omega, by omega, by omega⟩ ?_ | refine VV.s rfl ?_  | refine VV.b (b_ltT (by omega) (by omega)) ?_ | refine VV.b (b_ltF (by omega) (by omega)) ?_ | refine VV.b (b_geT (by omega) (by omega)) ?_ | refine VV.b (b_geF (by omega) (by omega)) ?_ | refine VV.b (b_gtT (by omega) (by omega)) ?_ | refine VV.b (b_gtF (by omega) (by omega)) ?_ | refine VV.b (b_leT (by omega) (by omega)) ?_ | refine VV.b (b_leF (by omega) (by omega)) ?_ | refine VV.b (b_eqT (by omega) (by omega)) ?_ | refine VV.b (b_eqF (by omega) (by omega)) ?_ | refine VV.b (b_neT (by omega) (by omega)) ?_ | refine VV.b (b_neF (by omega) (by omega)) ?_)
    (refine VV.c rfl ?_; refine c_sets (g := 3) rfl hn h4 ?_)
    repeat (first | refine VV.add rfl ?_ | refine VV.inc rfl rfl rfl ?_ | refine VV.mul rfl ?_ | refine VV.sub rfl (by omega) ?_ | refine VV.shl1 rfl (by omega) ?_ | refine VV.shl rfl ⟨by omega, by omega⟩ ?_ | refine VV.shr rfl ⟨by omega, by omega⟩ ?_ | refine VV.and rfl ?_ | refine VV.div rfl ⟨by omega, by omega, by omega⟩ ?_ | refine VV.rem rfl ⟨by omega, by omega, by omega⟩ ?_ | refine VV.s rfl ?_  | refine VV.b (b_ltT (by omega) (by omega)) ?_ | refine VV.b (b_ltF (by omega) (by omega)) ?_ | refine VV.b (b_geT (by omega) (by omega)) ?_ | refine VV.b (b_geF (by omega) (by omega)) ?_ | refine VV.b (b_gtT (by omega) (by omega)) ?_ | refine VV.b (b_gtF (by omega) (by omega)) ?_ | refine VV.b (b_leT (by omega) (by omega)) ?_ | refine VV.b (b_leF (by omega) (by omega)) ?_ | refine VV.b (b_eqT (by omega) (by omega)) ?_ | refine VV.b (b_eqF (by omega) (by omega)) ?_ | refine VV.b (b_neT (by omega) (by omega)) ?_ | refine VV.b (b_neF (by omega) (by omega)) ?_)
    (refine VV.c rfl ?_; refine c_bitCount (show R < 16 by omega) ?_)
    by_cases c : pop4 R = a
    · have := nxt (t + mnr s.c.E R R) (by rw [sJ, if_pos c, ht])
      repeat (first | refine VV.add rfl ?_ | refine VV.inc rfl rfl rfl ?_ | refine VV.mul rfl ?_ | refine VV.sub rfl (by omega) ?_ | refine VV.shl1 rfl (by omega) ?_ | refine VV.shl rfl ⟨by omega, by omega⟩ ?_ | refine VV.shr rfl ⟨by omega, by omega⟩ ?_ | refine VV.and rfl ?_ | refine VV.div rfl ⟨by omega, by omega, by omega⟩ ?_ | refine VV.rem rfl ⟨by omega, by omega, by omega⟩ ?_ | refine VV.s rfl ?_  | refine VV.b (b_ltT (by omega) (by omega)) ?_ | refine VV.b (b_ltF (by omega) (by omega)) ?_ | refine VV.b (b_geT (by omega) (by omega)) ?_ | refine VV.b (b_geF (by omega) (by omega)) ?_ | refine VV.b (b_gtT (by omega) (by omega)) ?_ | refine VV.b (b_gtF (by omega) (by omega)) ?_ | refine VV.b (b_leT (by omega) (by omega)) ?_ | refine VV.b (b_leF (by omega) (by omega)) ?_ | refine VV.b (b_eqT (by omega) (by omega)) ?_ | refine VV.b (b_eqF (by omega) (by omega)) ?_ | refine VV.b (b_neT (by omega) (by omega)) ?_ | refine VV.b (b_neF (by omega) (by omega)) ?_)
      (refine VV.c rfl ?_; refine c_detP (g := 3) rfl hn h4 hR hR rfl (fun f => ?_))
      rw [show mnr (B (3 + 1)) R R = mnr s.c.E R R from mnr_congr h4 hR hR (fun a b ha hb => h.now.E a b ha hb)]
      have := this f
      repeat (first | exact this | refine VV.add rfl ?_ | refine VV.inc rfl rfl rfl ?_ | refine VV.mul rfl ?_ | refine VV.sub rfl (by omega) ?_ | refine VV.shl1 rfl (by omega) ?_ | refine VV.shl rfl ⟨by omega, by omega⟩ ?_ | refine VV.shr rfl ⟨by omega, by omega⟩ ?_ | refine VV.and rfl ?_ | refine VV.div rfl ⟨by omega, by omega, by omega⟩ ?_ | refine VV.rem rfl ⟨by omega, by omega, by omega⟩ ?_ | refine VV.s rfl ?_  | refine VV.b (b_ltT (by omega) (by omega)) ?_ | refine VV.b (b_ltF (by omega) (by omega)) ?_ | refine VV.b (b_geT (by omega) (by omega)) ?_ | refine VV.b (b_geF (by omega) (by omega)) ?_ | refine VV.b (b_gtT (by omega) (by omega)) ?_ | refine VV.b (b_gtF (by omega) (by omega)) ?_ | refine VV.b (b_leT (by omega) (by omega)) ?_ | refine VV.b (b_leF (by omega) (by omega)) ?_ | refine VV.b (b_eqT (by omega) (by omega)) ?_ | refine VV.b (b_eqF (by omega) (by omega)) ?_ | refine VV.b (b_neT (by omega) (by omega)) ?_ | refine VV.b (b_neF (by omega) (by omega)) ?_)
    · have := nxt t (by rw [sJ, if_neg c, ht]; exact (Int64.add_zero _).symm) f
      repeat (first | exact this | refine VV.add rfl ?_ | refine VV.inc rfl rfl rfl ?_ | refine VV.mul rfl ?_ | refine VV.sub rfl (by omega) ?_ | refine VV.shl1 rfl (by omega) ?_ | refine VV.shl rfl ⟨by omega, by omega⟩ ?_ | refine VV.shr rfl ⟨by omega, by omega⟩ ?_ | refine VV.and rfl ?_ | refine VV.div rfl ⟨by omega, by omega, by omega⟩ ?_ | refine VV.rem rfl ⟨by omega, by omega, by omega⟩ ?_ | refine VV.s rfl ?_  | refine VV.b (b_ltT (by omega) (by omega)) ?_ | refine VV.b (b_ltF (by omega) (by omega)) ?_ | refine VV.b (b_geT (by omega) (by omega)) ?_ | refine VV.b (b_geF (by omega) (by omega)) ?_ | refine VV.b (b_gtT (by omega) (by omega)) ?_ | refine VV.b (b_gtF (by omega) (by omega)) ?_ | refine VV.b (b_leT (by omega) (by omega)) ?_ | refine VV.b (b_leF (by omega) (by omega)) ?_ | refine VV.b (b_eqT (by omega) (by omega)) ?_ | refine VV.b (b_eqF (by omega) (by omega)) ?_ | refine VV.b (b_neT (by omega) (by omega)) ?_ | refine VV.b (b_neF (by omega) (by omega)) ?_)
  · intro t ht f
    subst ht
    repeat (first | refine VV.add rfl ?_ | refine VV.inc rfl rfl rfl ?_ | refine VV.mul rfl ?_ | refine VV.sub rfl (by omega) ?_ | refine VV.shl1 rfl (by omega) ?_ | refine VV.shl rfl ⟨by omega, by omega⟩ ?_ | refine VV.shr rfl ⟨by omega, by omega⟩ ?_ | refine VV.and rfl ?_ | refine VV.div rfl ⟨by omega, by omega, by omega⟩ ?_ | refine VV.rem rfl ⟨by omega, by omega, by omega⟩ ?_ | refine VV.s rfl ?_  | refine VV.b (b_ltT (by omega) (by omega)) ?_ | refine VV.b (b_ltF (by omega) (by omega)) ?_ | refine VV.b (b_geT (by omega) (by omega)) ?_ | refine VV.b (b_geF (by omega) (by omega)) ?_ | refine VV.b (b_gtT (by omega) (by omega)) ?_ | refine VV.b (b_gtF (by omega) (by omega)) ?_ | refine VV.b (b_leT (by omega) (by omega)) ?_ | refine VV.b (b_leF (by omega) (by omega)) ?_ | refine VV.b (b_eqT (by omega) (by omega)) ?_ | refine VV.b (b_eqF (by omega) (by omega)) ?_ | refine VV.b (b_neT (by omega) (by omega)) ?_ | refine VV.b (b_neF (by omega) (by omega)) ?_)
    (refine VV.c rfl ?_; refine c_sets (g := 3) rfl hn h4 ?_)
    repeat (first | refine VV.add rfl ?_ | refine VV.inc rfl rfl rfl ?_ | refine VV.mul rfl ?_ | refine VV.sub rfl (by omega) ?_ | refine VV.shl1 rfl (by omega) ?_ | refine VV.shl rfl ⟨by omega, by omega⟩ ?_ | refine VV.shr rfl ⟨by omega, by omega⟩ ?_ | refine VV.and rfl ?_ | refine VV.div rfl ⟨by omega, by omega, by omega⟩ ?_ | refine VV.rem rfl ⟨by omega, by omega, by omega⟩ ?_ | refine VV.s rfl ?_  | refine VV.b (b_ltT (by omega) (by omega)) ?_ | refine VV.b (b_ltF (by omega) (by omega)) ?_ | refine VV.b (b_geT (by omega) (by omega)) ?_ | refine VV.b (b_geF (by omega) (by omega)) ?_ | refine VV.b (b_gtT (by omega) (by omega)) ?_ | refine VV.b (b_gtF (by omega) (by omega)) ?_ | refine VV.b (b_leT (by omega) (by omega)) ?_ | refine VV.b (b_leF (by omega) (by omega)) ?_ | refine VV.b (b_eqT (by omega) (by omega)) ?_ | refine VV.b (b_eqF (by omega) (by omega)) ?_ | refine VV.b (b_neT (by omega) (by omega)) ?_ | refine VV.b (b_neF (by omega) (by omega)) ?_)
    exact VV.r rfl (q _ _ _ (h.b5 f) (FX.b5 f))
theorem x_odds (i : IV s) {k p : Int32} : KXJ (d + 4) M_T_odds [.ref 1, .int k, .int p] s (oOdds s k p) := by
  intro S τ A B Q h q
  unfold oOdds at q
  have hn : τ (100 * 3 + 2) = nI s.c.n := h.now.n
  have h4 := i.c.n4
  refine CC.of rfl ?_
  repeat refine VV.s rfl ?_
  (refine VV.c rfl ?_; refine cx_isOrder hn h4 ?_)
  rcases rgB_cases (a := 1) (b := s.c.n) (by omega) (by omega) k with ⟨e, a, a1, a2, rfl⟩ | ⟨e, _⟩
  · rw [e]
    show VV _ _ _ _ [.int (nI 1)] _ _
    repeat (first | refine VV.add rfl ?_ | refine VV.inc rfl rfl rfl ?_ | refine VV.mul rfl ?_ | refine VV.sub rfl (by omega) ?_ | refine VV.shl1 rfl (by omega) ?_ | refine VV.shl rfl ⟨by omega, by omega⟩ ?_ | refine VV.shr rfl ⟨by omega, by omega⟩ ?_ | refine VV.and rfl ?_ | refine VV.div rfl ⟨by omega, by omega, by omega⟩ ?_ | refine VV.rem rfl ⟨by omega, by omega, by omega⟩ ?_ | refine VV.s rfl ?_  | refine VV.b (b_ltT (by omega) (by omega)) ?_ | refine VV.b (b_ltF (by omega) (by omega)) ?_ | refine VV.b (b_geT (by omega) (by omega)) ?_ | refine VV.b (b_geF (by omega) (by omega)) ?_ | refine VV.b (b_gtT (by omega) (by omega)) ?_ | refine VV.b (b_gtF (by omega) (by omega)) ?_ | refine VV.b (b_leT (by omega) (by omega)) ?_ | refine VV.b (b_leF (by omega) (by omega)) ?_ | refine VV.b (b_eqT (by omega) (by omega)) ?_ | refine VV.b (b_eqF (by omega) (by omega)) ?_ | refine VV.b (b_neT (by omega) (by omega)) ?_ | refine VV.b (b_neF (by omega) (by omega)) ?_)
    (refine VV.c rfl ?_; refine cx_is01 ?_)
    cases e2 : o01 p with
    | false =>
      rw [if_neg (fun z => by rw [e2] at z; cases z.2)] at q
      repeat (first | refine VV.add rfl ?_ | refine VV.inc rfl rfl rfl ?_ | refine VV.mul rfl ?_ | refine VV.sub rfl (by omega) ?_ | refine VV.shl1 rfl (by omega) ?_ | refine VV.shl rfl ⟨by omega, by omega⟩ ?_ | refine VV.shr rfl ⟨by omega, by omega⟩ ?_ | refine VV.and rfl ?_ | refine VV.div rfl ⟨by omega, by omega, by omega⟩ ?_ | refine VV.rem rfl ⟨by omega, by omega, by omega⟩ ?_ | refine VV.s rfl ?_  | refine VV.b (b_ltT (by omega) (by omega)) ?_ | refine VV.b (b_ltF (by omega) (by omega)) ?_ | refine VV.b (b_geT (by omega) (by omega)) ?_ | refine VV.b (b_geF (by omega) (by omega)) ?_ | refine VV.b (b_gtT (by omega) (by omega)) ?_ | refine VV.b (b_gtF (by omega) (by omega)) ?_ | refine VV.b (b_leT (by omega) (by omega)) ?_ | refine VV.b (b_leF (by omega) (by omega)) ?_ | refine VV.b (b_eqT (by omega) (by omega)) ?_ | refine VV.b (b_eqF (by omega) (by omega)) ?_ | refine VV.b (b_neT (by omega) (by omega)) ?_ | refine VV.b (b_neF (by omega) (by omega)) ?_)
      exact VV.r rfl (q τ A B h FX.refl)
    | true =>
      rw [if_pos ⟨e, e2⟩, nI_clamp (by omega), ← abN_congr h4 (fun a b ha hb => h.now.E a b ha hb)] at q
      show VV _ _ _ _ [.int (nI 1)] _ _
      repeat (first | refine VV.add rfl ?_ | refine VV.inc rfl rfl rfl ?_ | refine VV.mul rfl ?_ | refine VV.sub rfl (by omega) ?_ | refine VV.shl1 rfl (by omega) ?_ | refine VV.shl rfl ⟨by omega, by omega⟩ ?_ | refine VV.shr rfl ⟨by omega, by omega⟩ ?_ | refine VV.and rfl ?_ | refine VV.div rfl ⟨by omega, by omega, by omega⟩ ?_ | refine VV.rem rfl ⟨by omega, by omega, by omega⟩ ?_ | refine VV.s rfl ?_  | refine VV.b (b_ltT (by omega) (by omega)) ?_ | refine VV.b (b_ltF (by omega) (by omega)) ?_ | refine VV.b (b_geT (by omega) (by omega)) ?_ | refine VV.b (b_geF (by omega) (by omega)) ?_ | refine VV.b (b_gtT (by omega) (by omega)) ?_ | refine VV.b (b_gtF (by omega) (by omega)) ?_ | refine VV.b (b_leT (by omega) (by omega)) ?_ | refine VV.b (b_leF (by omega) (by omega)) ?_ | refine VV.b (b_eqT (by omega) (by omega)) ?_ | refine VV.b (b_eqF (by omega) (by omega)) ?_ | refine VV.b (b_neT (by omega) (by omega)) ?_ | refine VV.b (b_neF (by omega) (by omega)) ?_)
      have eB : up B 5 (B 5) = B := up_id B 5
      rw [← eB]
      (refine VV.c rfl ?_; refine c_aboveOf (g := 3) rfl hn h4 (show a < 16 by omega) (fun f => ?_))
      repeat (first | refine VV.add rfl ?_ | refine VV.inc rfl rfl rfl ?_ | refine VV.mul rfl ?_ | refine VV.sub rfl (by omega) ?_ | refine VV.shl1 rfl (by omega) ?_ | refine VV.shl rfl ⟨by omega, by omega⟩ ?_ | refine VV.shr rfl ⟨by omega, by omega⟩ ?_ | refine VV.and rfl ?_ | refine VV.div rfl ⟨by omega, by omega, by omega⟩ ?_ | refine VV.rem rfl ⟨by omega, by omega, by omega⟩ ?_ | refine VV.s rfl ?_  | refine VV.b (b_ltT (by omega) (by omega)) ?_ | refine VV.b (b_ltF (by omega) (by omega)) ?_ | refine VV.b (b_geT (by omega) (by omega)) ?_ | refine VV.b (b_geF (by omega) (by omega)) ?_ | refine VV.b (b_gtT (by omega) (by omega)) ?_ | refine VV.b (b_gtF (by omega) (by omega)) ?_ | refine VV.b (b_leT (by omega) (by omega)) ?_ | refine VV.b (b_leF (by omega) (by omega)) ?_ | refine VV.b (b_eqT (by omega) (by omega)) ?_ | refine VV.b (b_eqF (by omega) (by omega)) ?_ | refine VV.b (b_neT (by omega) (by omega)) ?_ | refine VV.b (b_neF (by omega) (by omega)) ?_)
      (refine VV.c rfl ?_; refine c_minorsOf (g := 3) rfl hn h4 (show a < 16 by omega) ?_)
      have b1 := abN_le (B (3 + 1)) h4 a
      have b2 := sb_pos s.c.n (by omega) a (by omega) a1 a2
      have b3 : sbN s.c.n a * sbN s.c.n a ≤ 6 * 6 := Nat.mul_le_mul b2.2 b2.2
      have b4 : 1 * 1 ≤ sbN s.c.n a * sbN s.c.n a := Nat.mul_le_mul b2.1 b2.1
      repeat refine VV.s rfl ?_
      show VV _ _ _ _ [.int p, .long (nI _).toInt64, .long (nI _).toInt64] _ _
      rw [nI_l (by omega), nI_l (by omega)]
      (refine VV.c rfl ?_; refine cx_low (by rw [lN_b (by omega)]; omega) (by rw [lN_b (by omega)]; omega) (by rw [lN_b (by omega)]; omega) ?_)
      exact VV.r rfl (q _ _ _ (h.b5 f) (FX.b5 f))
  · rw [e]
    rw [if_neg (fun z => by rw [e] at z; cases z.1)] at q
    repeat (first | refine VV.add rfl ?_ | refine VV.inc rfl rfl rfl ?_ | refine VV.mul rfl ?_ | refine VV.sub rfl (by omega) ?_ | refine VV.shl1 rfl (by omega) ?_ | refine VV.shl rfl ⟨by omega, by omega⟩ ?_ | refine VV.shr rfl ⟨by omega, by omega⟩ ?_ | refine VV.and rfl ?_ | refine VV.div rfl ⟨by omega, by omega, by omega⟩ ?_ | refine VV.rem rfl ⟨by omega, by omega, by omega⟩ ?_ | refine VV.s rfl ?_  | refine VV.b (b_ltT (by omega) (by omega)) ?_ | refine VV.b (b_ltF (by omega) (by omega)) ?_ | refine VV.b (b_geT (by omega) (by omega)) ?_ | refine VV.b (b_geF (by omega) (by omega)) ?_ | refine VV.b (b_gtT (by omega) (by omega)) ?_ | refine VV.b (b_gtF (by omega) (by omega)) ?_ | refine VV.b (b_leT (by omega) (by omega)) ?_ | refine VV.b (b_leF (by omega) (by omega)) ?_ | refine VV.b (b_eqT (by omega) (by omega)) ?_ | refine VV.b (b_eqF (by omega) (by omega)) ?_ | refine VV.b (b_neT (by omega) (by omega)) ?_ | refine VV.b (b_neF (by omega) (by omega)) ?_)
    exact VV.r rfl (q τ A B h FX.refl)
theorem x_mean (i : IV s) {p : Int32} : KXJ (d + 4) M_T_mean [.ref 1, .int p] s (oMean s p) := by
  intro S τ A B Q h q
  unfold oMean at q
  have hn : τ (100 * 3 + 2) = nI s.c.n := h.now.n
  have h4 := i.c.n4
  have h2 := i.c.n2
  refine CC.of rfl ?_
  repeat refine VV.s rfl ?_
  (refine VV.c rfl ?_; refine cx_is01 ?_)
  cases e2 : o01 p with
  | false =>
    rw [e2] at q
    repeat (first | refine VV.add rfl ?_ | refine VV.inc rfl rfl rfl ?_ | refine VV.mul rfl ?_ | refine VV.sub rfl (by omega) ?_ | refine VV.shl1 rfl (by omega) ?_ | refine VV.shl rfl ⟨by omega, by omega⟩ ?_ | refine VV.shr rfl ⟨by omega, by omega⟩ ?_ | refine VV.and rfl ?_ | refine VV.div rfl ⟨by omega, by omega, by omega⟩ ?_ | refine VV.rem rfl ⟨by omega, by omega, by omega⟩ ?_ | refine VV.s rfl ?_  | refine VV.b (b_ltT (by omega) (by omega)) ?_ | refine VV.b (b_ltF (by omega) (by omega)) ?_ | refine VV.b (b_geT (by omega) (by omega)) ?_ | refine VV.b (b_geF (by omega) (by omega)) ?_ | refine VV.b (b_gtT (by omega) (by omega)) ?_ | refine VV.b (b_gtF (by omega) (by omega)) ?_ | refine VV.b (b_leT (by omega) (by omega)) ?_ | refine VV.b (b_leF (by omega) (by omega)) ?_ | refine VV.b (b_eqT (by omega) (by omega)) ?_ | refine VV.b (b_eqF (by omega) (by omega)) ?_ | refine VV.b (b_neT (by omega) (by omega)) ?_ | refine VV.b (b_neF (by omega) (by omega)) ?_)
    exact VV.r rfl (q τ A B h FX.refl)
  | true =>
    rw [e2, if_pos rfl] at q
    show VV _ _ _ _ [.int (nI 1)] _ _
    repeat (first | refine VV.add rfl ?_ | refine VV.inc rfl rfl rfl ?_ | refine VV.mul rfl ?_ | refine VV.sub rfl (by omega) ?_ | refine VV.shl1 rfl (by omega) ?_ | refine VV.shl rfl ⟨by omega, by omega⟩ ?_ | refine VV.shr rfl ⟨by omega, by omega⟩ ?_ | refine VV.and rfl ?_ | refine VV.div rfl ⟨by omega, by omega, by omega⟩ ?_ | refine VV.rem rfl ⟨by omega, by omega, by omega⟩ ?_ | refine VV.s rfl ?_  | refine VV.b (b_ltT (by omega) (by omega)) ?_ | refine VV.b (b_ltF (by omega) (by omega)) ?_ | refine VV.b (b_geT (by omega) (by omega)) ?_ | refine VV.b (b_geF (by omega) (by omega)) ?_ | refine VV.b (b_gtT (by omega) (by omega)) ?_ | refine VV.b (b_gtF (by omega) (by omega)) ?_ | refine VV.b (b_leT (by omega) (by omega)) ?_ | refine VV.b (b_leF (by omega) (by omega)) ?_ | refine VV.b (b_eqT (by omega) (by omega)) ?_ | refine VV.b (b_eqF (by omega) (by omega)) ?_ | refine VV.b (b_neT (by omega) (by omega)) ?_ | refine VV.b (b_neF (by omega) (by omega)) ?_)
    (refine VV.c rfl ?_; refine c_lines (g := 3) rfl hn h4 ?_)
    repeat (first | refine VV.add rfl ?_ | refine VV.inc rfl rfl rfl ?_ | refine VV.mul rfl ?_ | refine VV.sub rfl (by omega) ?_ | refine VV.shl1 rfl (by omega) ?_ | refine VV.shl rfl ⟨by omega, by omega⟩ ?_ | refine VV.shr rfl ⟨by omega, by omega⟩ ?_ | refine VV.and rfl ?_ | refine VV.div rfl ⟨by omega, by omega, by omega⟩ ?_ | refine VV.rem rfl ⟨by omega, by omega, by omega⟩ ?_ | refine VV.s rfl ?_  | refine VV.b (b_ltT (by omega) (by omega)) ?_ | refine VV.b (b_ltF (by omega) (by omega)) ?_ | refine VV.b (b_geT (by omega) (by omega)) ?_ | refine VV.b (b_geF (by omega) (by omega)) ?_ | refine VV.b (b_gtT (by omega) (by omega)) ?_ | refine VV.b (b_gtF (by omega) (by omega)) ?_ | refine VV.b (b_leT (by omega) (by omega)) ?_ | refine VV.b (b_leF (by omega) (by omega)) ?_ | refine VV.b (b_eqT (by omega) (by omega)) ?_ | refine VV.b (b_eqF (by omega) (by omega)) ?_ | refine VV.b (b_neT (by omega) (by omega)) ?_ | refine VV.b (b_neF (by omega) (by omega)) ?_)
    (refine VV.c rfl ?_; refine c_together (g := 3) rfl hn h4 ?_)
    have b1 : s.c.n * s.c.n ≤ 4 * 4 := Nat.mul_le_mul h4 h4
    have b2 : 2 * 2 ≤ s.c.n * s.c.n := Nat.mul_le_mul h2 h2
    have eT : sJ (fun i => sJ (fun j => B (3 + 1) (4 * i + j)) s.c.n) s.c.n = tot s.c.E s.c.n := sJ_congr s.c.n (fun a ha => sJ_congr s.c.n (fun b hb => h.now.E a b ha hb))
    have b3 := tot_b h4 i.c.E
    have b4 : s.c.n * (s.c.n * 99) ≤ 4 * (4 * 99) := Nat.mul_le_mul h4 (Nat.mul_le_mul_right _ h4)
    rw [eT]
    repeat (first | refine VV.add rfl ?_ | refine VV.inc rfl rfl rfl ?_ | refine VV.mul rfl ?_ | refine VV.sub rfl (by omega) ?_ | refine VV.shl1 rfl (by omega) ?_ | refine VV.shl rfl ⟨by omega, by omega⟩ ?_ | refine VV.shr rfl ⟨by omega, by omega⟩ ?_ | refine VV.and rfl ?_ | refine VV.div rfl ⟨by omega, by omega, by omega⟩ ?_ | refine VV.rem rfl ⟨by omega, by omega, by omega⟩ ?_ | refine VV.s rfl ?_  | refine VV.b (b_ltT (by omega) (by omega)) ?_ | refine VV.b (b_ltF (by omega) (by omega)) ?_ | refine VV.b (b_geT (by omega) (by omega)) ?_ | refine VV.b (b_geF (by omega) (by omega)) ?_ | refine VV.b (b_gtT (by omega) (by omega)) ?_ | refine VV.b (b_gtF (by omega) (by omega)) ?_ | refine VV.b (b_leT (by omega) (by omega)) ?_ | refine VV.b (b_leF (by omega) (by omega)) ?_ | refine VV.b (b_eqT (by omega) (by omega)) ?_ | refine VV.b (b_eqF (by omega) (by omega)) ?_ | refine VV.b (b_neT (by omega) (by omega)) ?_ | refine VV.b (b_neF (by omega) (by omega)) ?_)
    show VV _ _ _ _ [.int p, .long (nI _).toInt64, .long _] _ _
    rw [nI_l (by omega)]
    (refine VV.c rfl ?_; refine cx_low (by omega) (by rw [lN_b (by omega)]; omega) (by rw [lN_b (by omega)]; omega) ?_)
    exact VV.r rfl (q τ A B h FX.refl)
theorem x_unlike (i : IV s) {k : Int32} : KX (d + 4) M_T_unlike [.ref 1, .int k] s (oUnlike s k) := by
  intro S τ A B Q h q
  unfold oUnlike at q
  have hn : τ (100 * 3 + 2) = nI s.c.n := h.now.n
  have h4 := i.c.n4
  have hp : 2 ^ s.c.n ≤ 2 ^ 4 := Nat.pow_le_pow_right (by omega) h4
  have hp0 : 0 < 2 ^ s.c.n := Nat.two_pow_pos s.c.n
  have hE : ∀ i j, i < s.c.n → j < s.c.n → B 4 (4 * i + j) = s.c.E (4 * i + j) := fun a b ha hb => h.now.E a b ha hb
  refine CC.of rfl ?_
  repeat refine VV.s rfl ?_
  (refine VV.c rfl ?_; refine cx_isOrder hn h4 ?_)
  rcases rgB_cases (a := 1) (b := s.c.n) (by omega) (by omega) k with ⟨e, a, a1, a2, rfl⟩ | ⟨e, _⟩
  · rw [e]
    rw [e, if_pos rfl, nI_clamp (by omega)] at q
    show VV _ _ _ _ [.int (nI 1)] _ _
    have z1 : ∀ N, unR s.c.E a N 1 = [] := by
      intro N
      rw [unR, unR]
      have : ∀ C, unC s.c.E a 0 [] C = [] := by
        intro C
        induction C with
        | zero => rfl
        | succ C ih => rw [unC, ih, un1, if_neg (fun z => by have := z.1; rw [show pop4 0 = 0 from rfl] at this; omega)]
      exact this N
    have z2 : ∀ R l, unC s.c.E a R l 1 = l := by
      intro R l
      rw [unC, unC, un1, if_neg (fun z => by have := z.2; rw [show pop4 0 = 0 from rfl] at this; omega)]
    have inner : ∀ R, 1 ≤ R → R < 2 ^ s.c.n → ∀ f W x4, lh (unR s.c.E a (2 ^ s.c.n) R) W → (∀ f W x4, lh (unR s.c.E a (2 ^ s.c.n) (R + 1)) W → VV (d + 4) M_T_unlike 89 [some (.ref 1), some (.int (nI a)), some (.int (nI (unR s.c.E a (2 ^ s.c.n) (R + 1)).length)), some (.int (nI R)), x4] [] (HH S τ A (up (up B 44 W) 5 f)) Q) → VV (d + 4) M_T_unlike 29 [some (.ref 1), some (.int (nI a)), some (.int (nI (unR s.c.E a (2 ^ s.c.n) R).length)), some (.int (nI R)), x4] [] (HH S τ A (up (up B 44 W) 5 f)) Q := by
      intro R hR1 hR f W x4 hW fin
      have V := VV.inv (fun C (W : Nat → Int64) => lh (unC s.c.E a R (unR s.c.E a (2 ^ s.c.n) R) C) W ∧ 1 ≤ C) (fun C W => ∀ f, VV (d + 4) M_T_unlike 32 [some (.ref 1), some (.int (nI a)), some (.int (nI (unC s.c.E a R (unR s.c.E a (2 ^ s.c.n) R) C).length)), some (.int (nI R)), some (.int (nI C))] [] (HH S τ A (up (up B 44 W) 5 f)) Q) (2 ^ s.c.n) ?_ ?_ (2 ^ s.c.n - 1) 1 W (by omega) ⟨by rw [z2]; exact hW, by omega⟩ f
      · rw [z2] at V
        repeat (first | exact V | refine VV.add rfl ?_ | refine VV.inc rfl rfl rfl ?_ | refine VV.mul rfl ?_ | refine VV.sub rfl (by omega) ?_ | refine VV.shl1 rfl (by omega) ?_ | refine VV.shl rfl ⟨by omega, by omega⟩ ?_ | refine VV.shr rfl ⟨by omega, by omega⟩ ?_ | refine VV.and rfl ?_ | refine VV.div rfl ⟨by omega, by omega, by omega⟩ ?_ | refine VV.rem rfl ⟨by omega, by omega, by omega⟩ ?_ | refine VV.s rfl ?_  | refine VV.b (b_ltT (by omega) (by omega)) ?_ | refine VV.b (b_ltF (by omega) (by omega)) ?_ | refine VV.b (b_geT (by omega) (by omega)) ?_ | refine VV.b (b_geF (by omega) (by omega)) ?_ | refine VV.b (b_gtT (by omega) (by omega)) ?_ | refine VV.b (b_gtF (by omega) (by omega)) ?_ | refine VV.b (b_leT (by omega) (by omega)) ?_ | refine VV.b (b_leF (by omega) (by omega)) ?_ | refine VV.b (b_eqT (by omega) (by omega)) ?_ | refine VV.b (b_eqF (by omega) (by omega)) ?_ | refine VV.b (b_neT (by omega) (by omega)) ?_ | refine VV.b (b_neF (by omega) (by omega)) ?_)
      · intro C W hC ⟨hW, hC1⟩ nxt f
        have p1 := pp4 R
        have p2 := pp4 C
        repeat (first | refine VV.add rfl ?_ | refine VV.inc rfl rfl rfl ?_ | refine VV.mul rfl ?_ | refine VV.sub rfl (by omega) ?_ | refine VV.shl1 rfl (by omega) ?_ | refine VV.shl rfl ⟨by omega, by omega⟩ ?_ | refine VV.shr rfl ⟨by omega, by omega⟩ ?_ | refine VV.and rfl ?_ | refine VV.div rfl ⟨by omega, by omega, by omega⟩ ?_ | refine VV.rem rfl ⟨by omega, by omega, by omega⟩ ?_ | refine VV.s rfl ?_  | refine VV.b (b_ltT (by omega) (by omega)) ?_ | refine VV.b (b_ltF (by omega) (by omega)) ?_ | refine VV.b (b_geT (by omega) (by omega)) ?_ | refine VV.b (b_geF (by omega) (by omega)) ?_ | refine VV.b (b_gtT (by omega) (by omega)) ?_ | refine VV.b (b_gtF (by omega) (by omega)) ?_ | refine VV.b (b_leT (by omega) (by omega)) ?_ | refine VV.b (b_leF (by omega) (by omega)) ?_ | refine VV.b (b_eqT (by omega) (by omega)) ?_ | refine VV.b (b_eqF (by omega) (by omega)) ?_ | refine VV.b (b_neT (by omega) (by omega)) ?_ | refine VV.b (b_neF (by omega) (by omega)) ?_)
        (refine VV.c rfl ?_; refine c_sets (g := 3) rfl hn h4 ?_)
        repeat (first | refine VV.add rfl ?_ | refine VV.inc rfl rfl rfl ?_ | refine VV.mul rfl ?_ | refine VV.sub rfl (by omega) ?_ | refine VV.shl1 rfl (by omega) ?_ | refine VV.shl rfl ⟨by omega, by omega⟩ ?_ | refine VV.shr rfl ⟨by omega, by omega⟩ ?_ | refine VV.and rfl ?_ | refine VV.div rfl ⟨by omega, by omega, by omega⟩ ?_ | refine VV.rem rfl ⟨by omega, by omega, by omega⟩ ?_ | refine VV.s rfl ?_  | refine VV.b (b_ltT (by omega) (by omega)) ?_ | refine VV.b (b_ltF (by omega) (by omega)) ?_ | refine VV.b (b_geT (by omega) (by omega)) ?_ | refine VV.b (b_geF (by omega) (by omega)) ?_ | refine VV.b (b_gtT (by omega) (by omega)) ?_ | refine VV.b (b_gtF (by omega) (by omega)) ?_ | refine VV.b (b_leT (by omega) (by omega)) ?_ | refine VV.b (b_leF (by omega) (by omega)) ?_ | refine VV.b (b_eqT (by omega) (by omega)) ?_ | refine VV.b (b_eqF (by omega) (by omega)) ?_ | refine VV.b (b_neT (by omega) (by omega)) ?_ | refine VV.b (b_neF (by omega) (by omega)) ?_)
        (refine VV.c rfl ?_; refine c_isOfOrder (show R < 16 by omega) (show C < 16 by omega) (show a < 16 by omega) ?_)
        rw [unC] at nxt
        unfold un1 at nxt
        by_cases c1 : pop4 R = a ∧ pop4 C = a
        · rw [decide_eq_true c1]
          rw [if_pos c1] at nxt
          show VV _ _ _ _ [.int (nI 1)] _ _
          repeat (first | refine VV.add rfl ?_ | refine VV.inc rfl rfl rfl ?_ | refine VV.mul rfl ?_ | refine VV.sub rfl (by omega) ?_ | refine VV.shl1 rfl (by omega) ?_ | refine VV.shl rfl ⟨by omega, by omega⟩ ?_ | refine VV.shr rfl ⟨by omega, by omega⟩ ?_ | refine VV.and rfl ?_ | refine VV.div rfl ⟨by omega, by omega, by omega⟩ ?_ | refine VV.rem rfl ⟨by omega, by omega, by omega⟩ ?_ | refine VV.s rfl ?_  | refine VV.b (b_ltT (by omega) (by omega)) ?_ | refine VV.b (b_ltF (by omega) (by omega)) ?_ | refine VV.b (b_geT (by omega) (by omega)) ?_ | refine VV.b (b_geF (by omega) (by omega)) ?_ | refine VV.b (b_gtT (by omega) (by omega)) ?_ | refine VV.b (b_gtF (by omega) (by omega)) ?_ | refine VV.b (b_leT (by omega) (by omega)) ?_ | refine VV.b (b_leF (by omega) (by omega)) ?_ | refine VV.b (b_eqT (by omega) (by omega)) ?_ | refine VV.b (b_eqF (by omega) (by omega)) ?_ | refine VV.b (b_neT (by omega) (by omega)) ?_ | refine VV.b (b_neF (by omega) (by omega)) ?_)
          (refine VV.c rfl ?_; refine c_detP (g := 3) rfl hn h4 hR hC (by omega) (fun f => ?_))
          rw [show mnr (up B 44 W (3 + 1)) R C = mnr s.c.E R C from mnr_congr h4 hR hC hE]
          repeat refine VV.s rfl ?_
          have l36 := un_le (E := s.c.E) h4 a1 (by omega) hR (show C ≤ 2 ^ s.c.n by omega)
          have l37 := un_le (E := s.c.E) h4 a1 (by omega) hR (show C + 1 ≤ 2 ^ s.c.n by omega)
          rw [unC, un1, if_pos c1] at l37
          (refine VV.c rfl ?_; refine cx_keep (l := unC s.c.E a R (unR s.c.E a (2 ^ s.c.n) R) C) (show lh _ W from hW) l36 (fun z => ?_) (fun z => ?_))
          · rw [if_pos z] at nxt
            have := nxt W ⟨hW, by omega⟩ f
            repeat (first | exact this | refine VV.add rfl ?_ | refine VV.inc rfl rfl rfl ?_ | refine VV.mul rfl ?_ | refine VV.sub rfl (by omega) ?_ | refine VV.shl1 rfl (by omega) ?_ | refine VV.shl rfl ⟨by omega, by omega⟩ ?_ | refine VV.shr rfl ⟨by omega, by omega⟩ ?_ | refine VV.and rfl ?_ | refine VV.div rfl ⟨by omega, by omega, by omega⟩ ?_ | refine VV.rem rfl ⟨by omega, by omega, by omega⟩ ?_ | refine VV.s rfl ?_  | refine VV.b (b_ltT (by omega) (by omega)) ?_ | refine VV.b (b_ltF (by omega) (by omega)) ?_ | refine VV.b (b_geT (by omega) (by omega)) ?_ | refine VV.b (b_geF (by omega) (by omega)) ?_ | refine VV.b (b_gtT (by omega) (by omega)) ?_ | refine VV.b (b_gtF (by omega) (by omega)) ?_ | refine VV.b (b_leT (by omega) (by omega)) ?_ | refine VV.b (b_leF (by omega) (by omega)) ?_ | refine VV.b (b_eqT (by omega) (by omega)) ?_ | refine VV.b (b_eqF (by omega) (by omega)) ?_ | refine VV.b (b_neT (by omega) (by omega)) ?_ | refine VV.b (b_neF (by omega) (by omega)) ?_)
          · rw [if_neg z] at nxt l37
            rw [List.length_append] at nxt l37
            simp only [List.length_cons, List.length_nil, Nat.zero_add] at nxt l37
            refine ⟨by omega, ?_⟩
            have := nxt (up W (unC s.c.E a R (unR s.c.E a (2 ^ s.c.n) R) C).length (mnr s.c.E R C)) ⟨lh_add hW _, by omega⟩ f
            rw [up_comm _ _ _ (show (44 : Nat) ≠ 5 by decide)] at this
            rw [up_comm _ _ _ (show (44 : Nat) ≠ 5 by decide), up_up]
            rw [show up (up B 5 f) 44 W 44 = W from up_s _ _ _]
            repeat (first | exact this | refine VV.add rfl ?_ | refine VV.inc rfl rfl rfl ?_ | refine VV.mul rfl ?_ | refine VV.sub rfl (by omega) ?_ | refine VV.shl1 rfl (by omega) ?_ | refine VV.shl rfl ⟨by omega, by omega⟩ ?_ | refine VV.shr rfl ⟨by omega, by omega⟩ ?_ | refine VV.and rfl ?_ | refine VV.div rfl ⟨by omega, by omega, by omega⟩ ?_ | refine VV.rem rfl ⟨by omega, by omega, by omega⟩ ?_ | refine VV.s rfl ?_  | refine VV.b (b_ltT (by omega) (by omega)) ?_ | refine VV.b (b_ltF (by omega) (by omega)) ?_ | refine VV.b (b_geT (by omega) (by omega)) ?_ | refine VV.b (b_geF (by omega) (by omega)) ?_ | refine VV.b (b_gtT (by omega) (by omega)) ?_ | refine VV.b (b_gtF (by omega) (by omega)) ?_ | refine VV.b (b_leT (by omega) (by omega)) ?_ | refine VV.b (b_leF (by omega) (by omega)) ?_ | refine VV.b (b_eqT (by omega) (by omega)) ?_ | refine VV.b (b_eqF (by omega) (by omega)) ?_ | refine VV.b (b_neT (by omega) (by omega)) ?_ | refine VV.b (b_neF (by omega) (by omega)) ?_)
        · rw [decide_eq_false c1]
          rw [if_neg c1] at nxt
          show VV _ _ _ _ [.int (nI 0)] _ _
          have := nxt W ⟨hW, by omega⟩ f
          repeat (first | exact this | refine VV.add rfl ?_ | refine VV.inc rfl rfl rfl ?_ | refine VV.mul rfl ?_ | refine VV.sub rfl (by omega) ?_ | refine VV.shl1 rfl (by omega) ?_ | refine VV.shl rfl ⟨by omega, by omega⟩ ?_ | refine VV.shr rfl ⟨by omega, by omega⟩ ?_ | refine VV.and rfl ?_ | refine VV.div rfl ⟨by omega, by omega, by omega⟩ ?_ | refine VV.rem rfl ⟨by omega, by omega, by omega⟩ ?_ | refine VV.s rfl ?_  | refine VV.b (b_ltT (by omega) (by omega)) ?_ | refine VV.b (b_ltF (by omega) (by omega)) ?_ | refine VV.b (b_geT (by omega) (by omega)) ?_ | refine VV.b (b_geF (by omega) (by omega)) ?_ | refine VV.b (b_gtT (by omega) (by omega)) ?_ | refine VV.b (b_gtF (by omega) (by omega)) ?_ | refine VV.b (b_leT (by omega) (by omega)) ?_ | refine VV.b (b_leF (by omega) (by omega)) ?_ | refine VV.b (b_eqT (by omega) (by omega)) ?_ | refine VV.b (b_eqF (by omega) (by omega)) ?_ | refine VV.b (b_neT (by omega) (by omega)) ?_ | refine VV.b (b_neF (by omega) (by omega)) ?_)
      · intro W ⟨hW, _⟩ f
        have := fin f W (some (.int (nI (2 ^ s.c.n)))) hW
        repeat (first | refine VV.add rfl ?_ | refine VV.inc rfl rfl rfl ?_ | refine VV.mul rfl ?_ | refine VV.sub rfl (by omega) ?_ | refine VV.shl1 rfl (by omega) ?_ | refine VV.shl rfl ⟨by omega, by omega⟩ ?_ | refine VV.shr rfl ⟨by omega, by omega⟩ ?_ | refine VV.and rfl ?_ | refine VV.div rfl ⟨by omega, by omega, by omega⟩ ?_ | refine VV.rem rfl ⟨by omega, by omega, by omega⟩ ?_ | refine VV.s rfl ?_  | refine VV.b (b_ltT (by omega) (by omega)) ?_ | refine VV.b (b_ltF (by omega) (by omega)) ?_ | refine VV.b (b_geT (by omega) (by omega)) ?_ | refine VV.b (b_geF (by omega) (by omega)) ?_ | refine VV.b (b_gtT (by omega) (by omega)) ?_ | refine VV.b (b_gtF (by omega) (by omega)) ?_ | refine VV.b (b_leT (by omega) (by omega)) ?_ | refine VV.b (b_leF (by omega) (by omega)) ?_ | refine VV.b (b_eqT (by omega) (by omega)) ?_ | refine VV.b (b_eqF (by omega) (by omega)) ?_ | refine VV.b (b_neT (by omega) (by omega)) ?_ | refine VV.b (b_neF (by omega) (by omega)) ?_)
        (refine VV.c rfl ?_; refine c_sets (g := 3) rfl hn h4 ?_)
        repeat (first | exact this | refine VV.add rfl ?_ | refine VV.inc rfl rfl rfl ?_ | refine VV.mul rfl ?_ | refine VV.sub rfl (by omega) ?_ | refine VV.shl1 rfl (by omega) ?_ | refine VV.shl rfl ⟨by omega, by omega⟩ ?_ | refine VV.shr rfl ⟨by omega, by omega⟩ ?_ | refine VV.and rfl ?_ | refine VV.div rfl ⟨by omega, by omega, by omega⟩ ?_ | refine VV.rem rfl ⟨by omega, by omega, by omega⟩ ?_ | refine VV.s rfl ?_  | refine VV.b (b_ltT (by omega) (by omega)) ?_ | refine VV.b (b_ltF (by omega) (by omega)) ?_ | refine VV.b (b_geT (by omega) (by omega)) ?_ | refine VV.b (b_geF (by omega) (by omega)) ?_ | refine VV.b (b_gtT (by omega) (by omega)) ?_ | refine VV.b (b_gtF (by omega) (by omega)) ?_ | refine VV.b (b_leT (by omega) (by omega)) ?_ | refine VV.b (b_leF (by omega) (by omega)) ?_ | refine VV.b (b_eqT (by omega) (by omega)) ?_ | refine VV.b (b_eqF (by omega) (by omega)) ?_ | refine VV.b (b_neT (by omega) (by omega)) ?_ | refine VV.b (b_neF (by omega) (by omega)) ?_)
    have V := VV.inv (fun R (W : Nat → Int64) => lh (unR s.c.E a (2 ^ s.c.n) R) W ∧ 1 ≤ R) (fun R W => ∀ f x4, VV (d + 4) M_T_unlike 15 [some (.ref 1), some (.int (nI a)), some (.int (nI (unR s.c.E a (2 ^ s.c.n) R).length)), some (.int (nI R)), x4] [] (HH S τ A (up (up B 44 W) 5 f)) Q) (2 ^ s.c.n) ?_ ?_ (2 ^ s.c.n - 1) 1 (B 44) (by omega) ⟨by rw [z1]; exact fun k hk => absurd hk (Nat.not_lt_zero k), by omega⟩ (B 5) none
    · rw [up_id, up_id, z1] at V
      repeat (first | exact V | refine VV.add rfl ?_ | refine VV.inc rfl rfl rfl ?_ | refine VV.mul rfl ?_ | refine VV.sub rfl (by omega) ?_ | refine VV.shl1 rfl (by omega) ?_ | refine VV.shl rfl ⟨by omega, by omega⟩ ?_ | refine VV.shr rfl ⟨by omega, by omega⟩ ?_ | refine VV.and rfl ?_ | refine VV.div rfl ⟨by omega, by omega, by omega⟩ ?_ | refine VV.rem rfl ⟨by omega, by omega, by omega⟩ ?_ | refine VV.s rfl ?_  | refine VV.b (b_ltT (by omega) (by omega)) ?_ | refine VV.b (b_ltF (by omega) (by omega)) ?_ | refine VV.b (b_geT (by omega) (by omega)) ?_ | refine VV.b (b_geF (by omega) (by omega)) ?_ | refine VV.b (b_gtT (by omega) (by omega)) ?_ | refine VV.b (b_gtF (by omega) (by omega)) ?_ | refine VV.b (b_leT (by omega) (by omega)) ?_ | refine VV.b (b_leF (by omega) (by omega)) ?_ | refine VV.b (b_eqT (by omega) (by omega)) ?_ | refine VV.b (b_eqF (by omega) (by omega)) ?_ | refine VV.b (b_neT (by omega) (by omega)) ?_ | refine VV.b (b_neF (by omega) (by omega)) ?_)
    · intro R W hR ⟨hW, hR1⟩ nxt f x4
      have := inner R hR1 hR f W x4 hW (fun f W x4 hW => by
        have := nxt W ⟨hW, by omega⟩ f x4
        repeat (first | exact this | refine VV.add rfl ?_ | refine VV.inc rfl rfl rfl ?_ | refine VV.mul rfl ?_ | refine VV.sub rfl (by omega) ?_ | refine VV.shl1 rfl (by omega) ?_ | refine VV.shl rfl ⟨by omega, by omega⟩ ?_ | refine VV.shr rfl ⟨by omega, by omega⟩ ?_ | refine VV.and rfl ?_ | refine VV.div rfl ⟨by omega, by omega, by omega⟩ ?_ | refine VV.rem rfl ⟨by omega, by omega, by omega⟩ ?_ | refine VV.s rfl ?_  | refine VV.b (b_ltT (by omega) (by omega)) ?_ | refine VV.b (b_ltF (by omega) (by omega)) ?_ | refine VV.b (b_geT (by omega) (by omega)) ?_ | refine VV.b (b_geF (by omega) (by omega)) ?_ | refine VV.b (b_gtT (by omega) (by omega)) ?_ | refine VV.b (b_gtF (by omega) (by omega)) ?_ | refine VV.b (b_leT (by omega) (by omega)) ?_ | refine VV.b (b_leF (by omega) (by omega)) ?_ | refine VV.b (b_eqT (by omega) (by omega)) ?_ | refine VV.b (b_eqF (by omega) (by omega)) ?_ | refine VV.b (b_neT (by omega) (by omega)) ?_ | refine VV.b (b_neF (by omega) (by omega)) ?_))
      repeat (first | refine VV.add rfl ?_ | refine VV.inc rfl rfl rfl ?_ | refine VV.mul rfl ?_ | refine VV.sub rfl (by omega) ?_ | refine VV.shl1 rfl (by omega) ?_ | refine VV.shl rfl ⟨by omega, by omega⟩ ?_ | refine VV.shr rfl ⟨by omega, by omega⟩ ?_ | refine VV.and rfl ?_ | refine VV.div rfl ⟨by omega, by omega, by omega⟩ ?_ | refine VV.rem rfl ⟨by omega, by omega, by omega⟩ ?_ | refine VV.s rfl ?_  | refine VV.b (b_ltT (by omega) (by omega)) ?_ | refine VV.b (b_ltF (by omega) (by omega)) ?_ | refine VV.b (b_geT (by omega) (by omega)) ?_ | refine VV.b (b_geF (by omega) (by omega)) ?_ | refine VV.b (b_gtT (by omega) (by omega)) ?_ | refine VV.b (b_gtF (by omega) (by omega)) ?_ | refine VV.b (b_leT (by omega) (by omega)) ?_ | refine VV.b (b_leF (by omega) (by omega)) ?_ | refine VV.b (b_eqT (by omega) (by omega)) ?_ | refine VV.b (b_eqF (by omega) (by omega)) ?_ | refine VV.b (b_neT (by omega) (by omega)) ?_ | refine VV.b (b_neF (by omega) (by omega)) ?_)
      (refine VV.c rfl ?_; refine c_sets (g := 3) rfl hn h4 ?_)
      repeat (first | exact this | refine VV.add rfl ?_ | refine VV.inc rfl rfl rfl ?_ | refine VV.mul rfl ?_ | refine VV.sub rfl (by omega) ?_ | refine VV.shl1 rfl (by omega) ?_ | refine VV.shl rfl ⟨by omega, by omega⟩ ?_ | refine VV.shr rfl ⟨by omega, by omega⟩ ?_ | refine VV.and rfl ?_ | refine VV.div rfl ⟨by omega, by omega, by omega⟩ ?_ | refine VV.rem rfl ⟨by omega, by omega, by omega⟩ ?_ | refine VV.s rfl ?_  | refine VV.b (b_ltT (by omega) (by omega)) ?_ | refine VV.b (b_ltF (by omega) (by omega)) ?_ | refine VV.b (b_geT (by omega) (by omega)) ?_ | refine VV.b (b_geF (by omega) (by omega)) ?_ | refine VV.b (b_gtT (by omega) (by omega)) ?_ | refine VV.b (b_gtF (by omega) (by omega)) ?_ | refine VV.b (b_leT (by omega) (by omega)) ?_ | refine VV.b (b_leF (by omega) (by omega)) ?_ | refine VV.b (b_eqT (by omega) (by omega)) ?_ | refine VV.b (b_eqF (by omega) (by omega)) ?_ | refine VV.b (b_neT (by omega) (by omega)) ?_ | refine VV.b (b_neF (by omega) (by omega)) ?_)
    · intro W ⟨hW, _⟩ f x4
      repeat (first | refine VV.add rfl ?_ | refine VV.inc rfl rfl rfl ?_ | refine VV.mul rfl ?_ | refine VV.sub rfl (by omega) ?_ | refine VV.shl1 rfl (by omega) ?_ | refine VV.shl rfl ⟨by omega, by omega⟩ ?_ | refine VV.shr rfl ⟨by omega, by omega⟩ ?_ | refine VV.and rfl ?_ | refine VV.div rfl ⟨by omega, by omega, by omega⟩ ?_ | refine VV.rem rfl ⟨by omega, by omega, by omega⟩ ?_ | refine VV.s rfl ?_  | refine VV.b (b_ltT (by omega) (by omega)) ?_ | refine VV.b (b_ltF (by omega) (by omega)) ?_ | refine VV.b (b_geT (by omega) (by omega)) ?_ | refine VV.b (b_geF (by omega) (by omega)) ?_ | refine VV.b (b_gtT (by omega) (by omega)) ?_ | refine VV.b (b_gtF (by omega) (by omega)) ?_ | refine VV.b (b_leT (by omega) (by omega)) ?_ | refine VV.b (b_leF (by omega) (by omega)) ?_ | refine VV.b (b_eqT (by omega) (by omega)) ?_ | refine VV.b (b_eqF (by omega) (by omega)) ?_ | refine VV.b (b_neT (by omega) (by omega)) ?_ | refine VV.b (b_neF (by omega) (by omega)) ?_)
      (refine VV.c rfl ?_; refine c_sets (g := 3) rfl hn h4 ?_)
      repeat (first | refine VV.add rfl ?_ | refine VV.inc rfl rfl rfl ?_ | refine VV.mul rfl ?_ | refine VV.sub rfl (by omega) ?_ | refine VV.shl1 rfl (by omega) ?_ | refine VV.shl rfl ⟨by omega, by omega⟩ ?_ | refine VV.shr rfl ⟨by omega, by omega⟩ ?_ | refine VV.and rfl ?_ | refine VV.div rfl ⟨by omega, by omega, by omega⟩ ?_ | refine VV.rem rfl ⟨by omega, by omega, by omega⟩ ?_ | refine VV.s rfl ?_  | refine VV.b (b_ltT (by omega) (by omega)) ?_ | refine VV.b (b_ltF (by omega) (by omega)) ?_ | refine VV.b (b_geT (by omega) (by omega)) ?_ | refine VV.b (b_geF (by omega) (by omega)) ?_ | refine VV.b (b_gtT (by omega) (by omega)) ?_ | refine VV.b (b_gtF (by omega) (by omega)) ?_ | refine VV.b (b_leT (by omega) (by omega)) ?_ | refine VV.b (b_leF (by omega) (by omega)) ?_ | refine VV.b (b_eqT (by omega) (by omega)) ?_ | refine VV.b (b_eqF (by omega) (by omega)) ?_ | refine VV.b (b_neT (by omega) (by omega)) ?_ | refine VV.b (b_neF (by omega) (by omega)) ?_)
      refine VV.r rfl (q _ _ _ (h.fn (c := s.c) (FN.ub (by decide) (FN.ub (by decide) FN.refl)) (RS.mk h.now.n h.now.E h.now.V h.now.chip h.now.note h.now.seen h.now.event h.now.book)) (FX.ub (by decide) (FX.ub (by decide) FX.refl)))
  · rw [e]
    rw [e] at q
    repeat (first | refine VV.add rfl ?_ | refine VV.inc rfl rfl rfl ?_ | refine VV.mul rfl ?_ | refine VV.sub rfl (by omega) ?_ | refine VV.shl1 rfl (by omega) ?_ | refine VV.shl rfl ⟨by omega, by omega⟩ ?_ | refine VV.shr rfl ⟨by omega, by omega⟩ ?_ | refine VV.and rfl ?_ | refine VV.div rfl ⟨by omega, by omega, by omega⟩ ?_ | refine VV.rem rfl ⟨by omega, by omega, by omega⟩ ?_ | refine VV.s rfl ?_  | refine VV.b (b_ltT (by omega) (by omega)) ?_ | refine VV.b (b_ltF (by omega) (by omega)) ?_ | refine VV.b (b_geT (by omega) (by omega)) ?_ | refine VV.b (b_geF (by omega) (by omega)) ?_ | refine VV.b (b_gtT (by omega) (by omega)) ?_ | refine VV.b (b_gtF (by omega) (by omega)) ?_ | refine VV.b (b_leT (by omega) (by omega)) ?_ | refine VV.b (b_leF (by omega) (by omega)) ?_ | refine VV.b (b_eqT (by omega) (by omega)) ?_ | refine VV.b (b_eqF (by omega) (by omega)) ?_ | refine VV.b (b_neT (by omega) (by omega)) ?_ | refine VV.b (b_neF (by omega) (by omega)) ?_)
    exact VV.r rfl (q τ A B h FX.refl)
end X6
