/-! the reference's calls: tapes -/
theorem rgm (k : Int32) : (k = -(nI 1) ∧ rgB (-(nI 1)) (nI 4) k = true) ∨ (∃ a, a ≤ 4 ∧ k = nI a ∧ rgB (-(nI 1)) (nI 4) k = true ∧ rgB (nI 0) (nI 4) k = true) ∨ (k ≠ -(nI 1) ∧ rgB (-(nI 1)) (nI 4) k = false ∧ rgB (nI 0) (nI 4) k = false) := by
  have m1 : (-(nI 1)).toInt = -1 := by decide
  rcases nI_or k with hk | ⟨a, ha, rfl⟩
  · by_cases e : k = -(nI 1)
    · refine Or.inl ⟨e, ?_⟩
      rw [e]; decide
    · refine Or.inr (Or.inr ⟨e, rgB_lo ?_, rgB_lo hk⟩)
      rw [Int32.lt_iff_toInt_lt] at hk ⊢
      rw [show (0 : Int32).toInt = 0 from rfl] at hk
      have : k.toInt ≠ (-(nI 1)).toInt := fun z => e (Int32.toInt.inj z)
      omega
  · have t1 : (nI a).toInt = a := nI_toInt ha
    have h0 : ¬ nI a < -(nI 1) := fun z => by
      rw [Int32.lt_iff_toInt_lt] at z
      omega
    by_cases c : a ≤ 4
    · exact Or.inr (Or.inl ⟨a, c, rfl, rgB_in h0 (fun z => absurd ((nI_ltI (by omega) ha).mp z) (by omega)), rgB_in (fun z => absurd ((nI_ltI ha (by omega)).mp z) (by omega)) (fun z => absurd ((nI_ltI (by omega) ha).mp z) (by omega))⟩)
    · refine Or.inr (Or.inr ⟨fun z => ?_, rgB_hi ((nI_ltI (by omega) ha).mpr (by omega)), rgB_hi ((nI_ltI (by omega) ha).mpr (by omega))⟩)
      have := congrArg Int32.toInt z
      omega
section MT
variable {S : Cl} {τ : Nat → Int32} {A : Nat → Nat → Int32} {B : Nat → Nat → Int64}
variable {d : Nat} {Q : Option Value → Hp → Prop}
theorem cm_isTape {t : Int32} {h : Hp} (q : Q (some (.int (bI (ltB 6 t)))) h) : CC (d + 1) M_M_isTape [.int t] h Q := by
  refine CC.of rfl ?_
  repeat (first | refine VV.add rfl ?_ | refine VV.inc rfl rfl rfl ?_ | refine VV.mul rfl ?_ | refine VV.sub rfl (by omega) ?_ | refine VV.shl1 rfl (by omega) ?_ | refine VV.shl rfl ⟨by omega, by omega⟩ ?_ | refine VV.shr rfl ⟨by omega, by omega⟩ ?_ | refine VV.and rfl ?_ | refine VV.div rfl ⟨by omega, by omega, by omega⟩ ?_ | refine VV.rem rfl ⟨by omega, by omega, by omega⟩ ?_ | refine VV.s rfl ?_  | refine VV.b (b_ltT (by omega) (by omega)) ?_ | refine VV.b (b_ltF (by omega) (by omega)) ?_ | refine VV.b (b_geT (by omega) (by omega)) ?_ | refine VV.b (b_geF (by omega) (by omega)) ?_ | refine VV.b (b_gtT (by omega) (by omega)) ?_ | refine VV.b (b_gtF (by omega) (by omega)) ?_ | refine VV.b (b_leT (by omega) (by omega)) ?_ | refine VV.b (b_leF (by omega) (by omega)) ?_ | refine VV.b (b_eqT (by omega) (by omega)) ?_ | refine VV.b (b_eqF (by omega) (by omega)) ?_ | refine VV.b (b_neT (by omega) (by omega)) ?_ | refine VV.b (b_neF (by omega) (by omega)) ?_)
  (refine VV.c rfl ?_; refine cm_in (lo := nI 0) (hi := nI (6 - 1)) rfl rfl ?_)
  rw [rgB_lt (by omega) (by omega)]
  cases hb : ltB 6 t <;> rw [hb] at q <;> exact VV.r rfl q
theorem cm_kept {s : Nat} {v : Int64} {h : Hp} (hs : s ≤ 4) (q : Q (some (.long (kpv s v))) h) : CC d M_M_kept [.int (nI s), .long v] h Q := by
  refine CC.of rfl ?_
  rcases (show s = 0 ∨ s = 1 ∨ s = 2 ∨ s = 3 ∨ s = 4 by omega) with rfl | rfl | rfl | rfl | rfl
  · repeat refine VV.s rfl ?_
    exact VV.r rfl q
  · repeat refine VV.s rfl ?_
    exact VV.r rfl q
  · repeat refine VV.s rfl ?_
    exact VV.r rfl q
  · repeat refine VV.s rfl ?_
    exact VV.r rfl q
  · refine VV.s rfl ?_
    refine VV.s rfl ?_
    refine VV.s rfl ?_
    refine VV.s rfl ?_
    refine VV.s rfl ?_
    refine VV.s rfl ?_
    unfold kpv at q
    refine VV.cne0 (fun c => ?_) (fun c => ?_)
    · rw [if_pos c] at q
      repeat refine VV.s rfl ?_
      exact VV.r rfl q
    · rw [if_neg c] at q
      repeat refine VV.s rfl ?_
      exact VV.r rfl q
end MT
section M7
variable {d : Nat} {s : St}
theorem m_tape (i : IV s) {t k n : Int32} : KM (d + 3) M_M_tape [.ref 58, .int t, .int k, .int n] s (oTape s t k n) := by
  intro S τ A B Q h q
  unfold oTape at q
  refine CC.of rfl ?_
  repeat refine VV.s rfl ?_
  (refine VV.c rfl ?_; refine cm_isTape ?_)
  cases hb : ltB 6 t with
  | false =>
    rw [hb] at q
    repeat (first | refine VV.add rfl ?_ | refine VV.inc rfl rfl rfl ?_ | refine VV.mul rfl ?_ | refine VV.sub rfl (by omega) ?_ | refine VV.shl1 rfl (by omega) ?_ | refine VV.shl rfl ⟨by omega, by omega⟩ ?_ | refine VV.shr rfl ⟨by omega, by omega⟩ ?_ | refine VV.and rfl ?_ | refine VV.div rfl ⟨by omega, by omega, by omega⟩ ?_ | refine VV.rem rfl ⟨by omega, by omega, by omega⟩ ?_ | refine VV.s rfl ?_  | refine VV.b (b_ltT (by omega) (by omega)) ?_ | refine VV.b (b_ltF (by omega) (by omega)) ?_ | refine VV.b (b_geT (by omega) (by omega)) ?_ | refine VV.b (b_geF (by omega) (by omega)) ?_ | refine VV.b (b_gtT (by omega) (by omega)) ?_ | refine VV.b (b_gtF (by omega) (by omega)) ?_ | refine VV.b (b_leT (by omega) (by omega)) ?_ | refine VV.b (b_leF (by omega) (by omega)) ?_ | refine VV.b (b_eqT (by omega) (by omega)) ?_ | refine VV.b (b_eqF (by omega) (by omega)) ?_ | refine VV.b (b_neT (by omega) (by omega)) ?_ | refine VV.b (b_neF (by omega) (by omega)) ?_)
    exact VV.r rfl (q τ A B h FM.refl)
  | true =>
    rw [hb, if_pos rfl] at q
    obtain ⟨T, h6, rfl⟩ := ltB_spec hb
    rw [nI_clamp (by omega)] at q
    have ok : ∀ a b : Nat, ∀ x4, (∀ τ' A' B', RM (tset s T a b (fun _ => 0)) τ' A' B' → FM τ A B τ' A' B' → Q (some (.int (nI 1))) (HH S τ' A' B')) → VV (d + 3) M_M_tape 71 [some (.ref 58), some (.int (nI T)), some (.int k), some (.int n), x4] [] (HH S τ (up (up A 82 (up (A 82) T (nI a))) 83 (up (A 83) T (nI b))) B) Q := by
      intro a b x4 q2
      have V := VV.inv (fun j (W : Nat → Int64) => (∀ l, l < j → W (60 * T + l) = 0) ∧ (∀ m, m < 60 * T ∨ 60 * T + 60 ≤ m → W m = B 84 m)) (fun j W => VV (d + 3) M_M_tape 74 [some (.ref 58), some (.int (nI T)), some (.int k), some (.int n), some (.int (nI j))] [] (HH S τ (up (up A 82 (up (A 82) T (nI a))) 83 (up (A 83) T (nI b))) (up B 84 W)) Q) 60 ?_ ?_ 60 0 (B 84) (by omega) ⟨fun l hl => absurd hl (by omega), fun m _ => rfl⟩
      · rw [up_id] at V
        repeat (first | exact V | refine VV.s rfl ?_)
      · intro j W hj ⟨h1, h2⟩ nxt
        have := nxt (up W (60 * T + j) 0) ⟨fun l hl => by
          by_cases e : l = j
          · rw [e, up_s]
          · rw [up_n (by omega)]; exact h1 l (by omega), fun m hm => by rw [up_n (by omega)]; exact h2 m hm⟩
        repeat (first | refine VV.g58 rfl rfl ?_ | refine VV.pf rfl rfl ?_ | refine VV.add rfl ?_ | refine VV.inc rfl rfl rfl ?_ | refine VV.mul rfl ?_ | refine VV.sub rfl (by omega) ?_ | refine VV.shl1 rfl (by omega) ?_ | refine VV.shl rfl ⟨by omega, by omega⟩ ?_ | refine VV.shr rfl ⟨by omega, by omega⟩ ?_ | refine VV.and rfl ?_ | refine VV.div rfl ⟨by omega, by omega, by omega⟩ ?_ | refine VV.rem rfl ⟨by omega, by omega, by omega⟩ ?_ | refine VV.s rfl ?_  | refine VV.b (b_ltT (by omega) (by omega)) ?_ | refine VV.b (b_ltF (by omega) (by omega)) ?_ | refine VV.b (b_geT (by omega) (by omega)) ?_ | refine VV.b (b_geF (by omega) (by omega)) ?_ | refine VV.b (b_gtT (by omega) (by omega)) ?_ | refine VV.b (b_gtF (by omega) (by omega)) ?_ | refine VV.b (b_leT (by omega) (by omega)) ?_ | refine VV.b (b_leF (by omega) (by omega)) ?_ | refine VV.b (b_eqT (by omega) (by omega)) ?_ | refine VV.b (b_eqF (by omega) (by omega)) ?_ | refine VV.b (b_neT (by omega) (by omega)) ?_ | refine VV.b (b_neF (by omega) (by omega)) ?_)
        refine VV.js rfl rfl rfl (show 60 * T + j < 360 by omega) ?_
        rw [up_up, up_s]
        repeat (first | exact this | refine VV.add rfl ?_ | refine VV.inc rfl rfl rfl ?_ | refine VV.mul rfl ?_ | refine VV.sub rfl (by omega) ?_ | refine VV.shl1 rfl (by omega) ?_ | refine VV.shl rfl ⟨by omega, by omega⟩ ?_ | refine VV.shr rfl ⟨by omega, by omega⟩ ?_ | refine VV.and rfl ?_ | refine VV.div rfl ⟨by omega, by omega, by omega⟩ ?_ | refine VV.rem rfl ⟨by omega, by omega, by omega⟩ ?_ | refine VV.s rfl ?_  | refine VV.b (b_ltT (by omega) (by omega)) ?_ | refine VV.b (b_ltF (by omega) (by omega)) ?_ | refine VV.b (b_geT (by omega) (by omega)) ?_ | refine VV.b (b_geF (by omega) (by omega)) ?_ | refine VV.b (b_gtT (by omega) (by omega)) ?_ | refine VV.b (b_gtF (by omega) (by omega)) ?_ | refine VV.b (b_leT (by omega) (by omega)) ?_ | refine VV.b (b_leF (by omega) (by omega)) ?_ | refine VV.b (b_eqT (by omega) (by omega)) ?_ | refine VV.b (b_eqF (by omega) (by omega)) ?_ | refine VV.b (b_neT (by omega) (by omega)) ?_ | refine VV.b (b_neF (by omega) (by omega)) ?_)
      · intro W ⟨h1, h2⟩
        repeat (first | refine VV.add rfl ?_ | refine VV.inc rfl rfl rfl ?_ | refine VV.mul rfl ?_ | refine VV.sub rfl (by omega) ?_ | refine VV.shl1 rfl (by omega) ?_ | refine VV.shl rfl ⟨by omega, by omega⟩ ?_ | refine VV.shr rfl ⟨by omega, by omega⟩ ?_ | refine VV.and rfl ?_ | refine VV.div rfl ⟨by omega, by omega, by omega⟩ ?_ | refine VV.rem rfl ⟨by omega, by omega, by omega⟩ ?_ | refine VV.s rfl ?_  | refine VV.b (b_ltT (by omega) (by omega)) ?_ | refine VV.b (b_ltF (by omega) (by omega)) ?_ | refine VV.b (b_geT (by omega) (by omega)) ?_ | refine VV.b (b_geF (by omega) (by omega)) ?_ | refine VV.b (b_gtT (by omega) (by omega)) ?_ | refine VV.b (b_gtF (by omega) (by omega)) ?_ | refine VV.b (b_leT (by omega) (by omega)) ?_ | refine VV.b (b_leF (by omega) (by omega)) ?_ | refine VV.b (b_eqT (by omega) (by omega)) ?_ | refine VV.b (b_eqF (by omega) (by omega)) ?_ | refine VV.b (b_neT (by omega) (by omega)) ?_ | refine VV.b (b_neF (by omega) (by omega)) ?_)
        refine VV.r rfl (q2 _ _ _ (RM.mk h.n h.E h.V h.cm h.ck h.nm h.nt h.sm h.se h.em h.ev h.bm h.bk h.tm h.tx (fun u hu => ?_) (fun u hu => ?_) (fun u j hu hj => ?_) h.im0 h.im1) (FM.ua (by decide) (FM.ua (by decide) (FM.ub (by decide) FM.refl))))
        · show up (A 82) T (nI a) u = nI (up s.ts T a u)
          by_cases e : u = T
          · rw [e, up_s, up_s]
          · rw [up_n e, up_n e]; exact h.ts u hu
        · show up (A 83) T (nI b) u = nI (up s.th T b u)
          by_cases e : u = T
          · rw [e, up_s, up_s]
          · rw [up_n e, up_n e]; exact h.tl u hu
        · show W (60 * u + j) = up s.ti T (fun _ => 0) u j
          by_cases e : u = T
          · rw [e, up_s]; exact h1 j hj
          · rw [up_n e, h2 _ (by omega)]; exact h.ti u j hu hj
    show VV _ _ _ _ [.int (nI 1)] _ _
    repeat (first | refine VV.add rfl ?_ | refine VV.inc rfl rfl rfl ?_ | refine VV.mul rfl ?_ | refine VV.sub rfl (by omega) ?_ | refine VV.shl1 rfl (by omega) ?_ | refine VV.shl rfl ⟨by omega, by omega⟩ ?_ | refine VV.shr rfl ⟨by omega, by omega⟩ ?_ | refine VV.and rfl ?_ | refine VV.div rfl ⟨by omega, by omega, by omega⟩ ?_ | refine VV.rem rfl ⟨by omega, by omega, by omega⟩ ?_ | refine VV.s rfl ?_  | refine VV.b (b_ltT (by omega) (by omega)) ?_ | refine VV.b (b_ltF (by omega) (by omega)) ?_ | refine VV.b (b_geT (by omega) (by omega)) ?_ | refine VV.b (b_geF (by omega) (by omega)) ?_ | refine VV.b (b_gtT (by omega) (by omega)) ?_ | refine VV.b (b_gtF (by omega) (by omega)) ?_ | refine VV.b (b_leT (by omega) (by omega)) ?_ | refine VV.b (b_leF (by omega) (by omega)) ?_ | refine VV.b (b_eqT (by omega) (by omega)) ?_ | refine VV.b (b_eqF (by omega) (by omega)) ?_ | refine VV.b (b_neT (by omega) (by omega)) ?_ | refine VV.b (b_neF (by omega) (by omega)) ?_)
    (refine VV.c rfl ?_; refine cm_in (lo := -(nI 1)) (hi := nI 4) rfl rfl ?_)
    rcases rgm k with ⟨e, r1⟩ | ⟨a, a4, e, r1, r2⟩ | ⟨e, r1, r2⟩
    · rw [r1]
      rw [if_pos e] at q
      have := ok 0 0 none q
      show VV _ _ _ _ [.int (nI 1)] _ _
      refine VV.s rfl ?_
      refine VV.b (b_eqF (by omega) (by omega)) ?_
      refine VV.s rfl ?_
      refine VV.s rfl ?_
      refine VV.t (by rw [e]; decide) ?_
      refine VV.s rfl ?_
      refine VV.s rfl ?_
      refine VV.t (by rw [e]; decide) ?_
      refine VV.s rfl ?_
      refine VV.g58 rfl rfl ?_
      refine VV.s rfl ?_
      refine VV.s rfl ?_
      refine VV.s rfl ?_
      refine VV.s rfl ?_
      refine VV.is rfl rfl rfl (show T < 6 by omega) ?_
      refine VV.s rfl ?_
      refine VV.g58 rfl rfl ?_
      refine VV.s rfl ?_
      refine VV.s rfl ?_
      refine VV.s rfl ?_
      refine VV.t (by rw [e]; decide) ?_
      refine VV.s rfl ?_
      refine VV.s rfl ?_
      refine VV.is rfl rfl rfl (show T < 6 by omega) ?_
      rw [show k + nI 1 = nI 0 by rw [e]; decide]
      exact this
    · rw [r1]
      subst e
      rw [if_neg (fun z => by
        have := congrArg Int32.toInt z
        rw [nI_toInt (by omega), show (-(nI 1)).toInt = -1 by decide] at this
        omega), if_pos r2] at q
      show VV _ _ _ _ [.int (nI 1)] _ _
      refine VV.s rfl ?_
      refine VV.b (b_eqF (by omega) (by omega)) ?_
      refine VV.s rfl ?_
      refine VV.s rfl ?_
      refine VV.b (b_ltF (by omega) (by omega)) ?_
      refine VV.s rfl ?_
      refine VV.s rfl ?_
      refine VV.s rfl ?_
      refine VV.i (fun c3 => ?_) (fun c3 => ?_)
      · rw [if_pos c3] at q
        repeat refine VV.s rfl ?_
        exact VV.r rfl (q τ A B h FM.refl)
      rw [if_neg c3] at q
      refine VV.s rfl ?_
      refine VV.s rfl ?_
      refine VV.b (b_ltF (by omega) (by omega)) ?_
      refine VV.s rfl ?_
      refine VV.s rfl ?_
      refine VV.i (fun c4 => ?_) (fun c4 => ?_)
      · rw [if_pos (show n < nI 0 from c4)] at q
        repeat refine VV.s rfl ?_
        exact VV.r rfl (q τ A B h FM.refl)
      rw [if_neg (show ¬ n < nI 0 from c4)] at q
      obtain ⟨b, hb2, rfl⟩ : ∃ b, b < 61 ∧ n = nI b := by
        rcases nI_or n with z | ⟨b, hb2, rfl⟩
        · exact absurd z c4
        · exact ⟨b, Nat.lt_of_not_le (fun z => c3 ((nI_ltI (by omega) hb2).mpr (by omega))), rfl⟩
      rw [nI_clamp (by omega), nI_clamp (by omega)] at q
      have := ok (a + 1) b none q
      repeat (first | refine VV.g58 rfl rfl ?_ | refine VV.pf rfl rfl ?_ | refine VV.add rfl ?_ | refine VV.inc rfl rfl rfl ?_ | refine VV.mul rfl ?_ | refine VV.sub rfl (by omega) ?_ | refine VV.shl1 rfl (by omega) ?_ | refine VV.shl rfl ⟨by omega, by omega⟩ ?_ | refine VV.shr rfl ⟨by omega, by omega⟩ ?_ | refine VV.and rfl ?_ | refine VV.div rfl ⟨by omega, by omega, by omega⟩ ?_ | refine VV.rem rfl ⟨by omega, by omega, by omega⟩ ?_ | refine VV.s rfl ?_  | refine VV.b (b_ltT (by omega) (by omega)) ?_ | refine VV.b (b_ltF (by omega) (by omega)) ?_ | refine VV.b (b_geT (by omega) (by omega)) ?_ | refine VV.b (b_geF (by omega) (by omega)) ?_ | refine VV.b (b_gtT (by omega) (by omega)) ?_ | refine VV.b (b_gtF (by omega) (by omega)) ?_ | refine VV.b (b_leT (by omega) (by omega)) ?_ | refine VV.b (b_leF (by omega) (by omega)) ?_ | refine VV.b (b_eqT (by omega) (by omega)) ?_ | refine VV.b (b_eqF (by omega) (by omega)) ?_ | refine VV.b (b_neT (by omega) (by omega)) ?_ | refine VV.b (b_neF (by omega) (by omega)) ?_)
      refine VV.is rfl rfl rfl (show T < 6 by omega) ?_
      repeat (first | refine VV.g58 rfl rfl ?_ | refine VV.pf rfl rfl ?_ | refine VV.add rfl ?_ | refine VV.inc rfl rfl rfl ?_ | refine VV.mul rfl ?_ | refine VV.sub rfl (by omega) ?_ | refine VV.shl1 rfl (by omega) ?_ | refine VV.shl rfl ⟨by omega, by omega⟩ ?_ | refine VV.shr rfl ⟨by omega, by omega⟩ ?_ | refine VV.and rfl ?_ | refine VV.div rfl ⟨by omega, by omega, by omega⟩ ?_ | refine VV.rem rfl ⟨by omega, by omega, by omega⟩ ?_ | refine VV.s rfl ?_  | refine VV.b (b_ltT (by omega) (by omega)) ?_ | refine VV.b (b_ltF (by omega) (by omega)) ?_ | refine VV.b (b_geT (by omega) (by omega)) ?_ | refine VV.b (b_geF (by omega) (by omega)) ?_ | refine VV.b (b_gtT (by omega) (by omega)) ?_ | refine VV.b (b_gtF (by omega) (by omega)) ?_ | refine VV.b (b_leT (by omega) (by omega)) ?_ | refine VV.b (b_leF (by omega) (by omega)) ?_ | refine VV.b (b_eqT (by omega) (by omega)) ?_ | refine VV.b (b_eqF (by omega) (by omega)) ?_ | refine VV.b (b_neT (by omega) (by omega)) ?_ | refine VV.b (b_neF (by omega) (by omega)) ?_)
      refine VV.is rfl rfl rfl (show T < 6 by omega) ?_
      repeat (first | exact this | refine VV.add rfl ?_ | refine VV.inc rfl rfl rfl ?_ | refine VV.mul rfl ?_ | refine VV.sub rfl (by omega) ?_ | refine VV.shl1 rfl (by omega) ?_ | refine VV.shl rfl ⟨by omega, by omega⟩ ?_ | refine VV.shr rfl ⟨by omega, by omega⟩ ?_ | refine VV.and rfl ?_ | refine VV.div rfl ⟨by omega, by omega, by omega⟩ ?_ | refine VV.rem rfl ⟨by omega, by omega, by omega⟩ ?_ | refine VV.s rfl ?_  | refine VV.b (b_ltT (by omega) (by omega)) ?_ | refine VV.b (b_ltF (by omega) (by omega)) ?_ | refine VV.b (b_geT (by omega) (by omega)) ?_ | refine VV.b (b_geF (by omega) (by omega)) ?_ | refine VV.b (b_gtT (by omega) (by omega)) ?_ | refine VV.b (b_gtF (by omega) (by omega)) ?_ | refine VV.b (b_leT (by omega) (by omega)) ?_ | refine VV.b (b_leF (by omega) (by omega)) ?_ | refine VV.b (b_eqT (by omega) (by omega)) ?_ | refine VV.b (b_eqF (by omega) (by omega)) ?_ | refine VV.b (b_neT (by omega) (by omega)) ?_ | refine VV.b (b_neF (by omega) (by omega)) ?_)
    · rw [r1]
      rw [if_neg e, r2] at q
      repeat (first | refine VV.add rfl ?_ | refine VV.inc rfl rfl rfl ?_ | refine VV.mul rfl ?_ | refine VV.sub rfl (by omega) ?_ | refine VV.shl1 rfl (by omega) ?_ | refine VV.shl rfl ⟨by omega, by omega⟩ ?_ | refine VV.shr rfl ⟨by omega, by omega⟩ ?_ | refine VV.and rfl ?_ | refine VV.div rfl ⟨by omega, by omega, by omega⟩ ?_ | refine VV.rem rfl ⟨by omega, by omega, by omega⟩ ?_ | refine VV.s rfl ?_  | refine VV.b (b_ltT (by omega) (by omega)) ?_ | refine VV.b (b_ltF (by omega) (by omega)) ?_ | refine VV.b (b_geT (by omega) (by omega)) ?_ | refine VV.b (b_geF (by omega) (by omega)) ?_ | refine VV.b (b_gtT (by omega) (by omega)) ?_ | refine VV.b (b_gtF (by omega) (by omega)) ?_ | refine VV.b (b_leT (by omega) (by omega)) ?_ | refine VV.b (b_leF (by omega) (by omega)) ?_ | refine VV.b (b_eqT (by omega) (by omega)) ?_ | refine VV.b (b_eqF (by omega) (by omega)) ?_ | refine VV.b (b_neT (by omega) (by omega)) ?_ | refine VV.b (b_neF (by omega) (by omega)) ?_)
      exact VV.r rfl (q τ A B h FM.refl)
theorem m_item (i : IV s) {t x : Int32} {v : Int64} : KM (d + 3) M_M_item [.ref 58, .int t, .int x, .long v] s (oItem s t x v) := by
  intro S τ A B Q h q
  unfold oItem at q
  refine CC.of rfl ?_
  repeat refine VV.s rfl ?_
  (refine VV.c rfl ?_; refine cm_isTape ?_)
  cases hb : ltB 6 t with
  | false =>
    rw [hb] at q
    repeat (first | refine VV.add rfl ?_ | refine VV.inc rfl rfl rfl ?_ | refine VV.mul rfl ?_ | refine VV.sub rfl (by omega) ?_ | refine VV.shl1 rfl (by omega) ?_ | refine VV.shl rfl ⟨by omega, by omega⟩ ?_ | refine VV.shr rfl ⟨by omega, by omega⟩ ?_ | refine VV.and rfl ?_ | refine VV.div rfl ⟨by omega, by omega, by omega⟩ ?_ | refine VV.rem rfl ⟨by omega, by omega, by omega⟩ ?_ | refine VV.s rfl ?_  | refine VV.b (b_ltT (by omega) (by omega)) ?_ | refine VV.b (b_ltF (by omega) (by omega)) ?_ | refine VV.b (b_geT (by omega) (by omega)) ?_ | refine VV.b (b_geF (by omega) (by omega)) ?_ | refine VV.b (b_gtT (by omega) (by omega)) ?_ | refine VV.b (b_gtF (by omega) (by omega)) ?_ | refine VV.b (b_leT (by omega) (by omega)) ?_ | refine VV.b (b_leF (by omega) (by omega)) ?_ | refine VV.b (b_eqT (by omega) (by omega)) ?_ | refine VV.b (b_eqF (by omega) (by omega)) ?_ | refine VV.b (b_neT (by omega) (by omega)) ?_ | refine VV.b (b_neF (by omega) (by omega)) ?_)
    exact VV.r rfl (q τ A B h FM.refl)
  | true =>
    rw [hb, if_pos rfl] at q
    obtain ⟨T, h6, rfl⟩ := ltB_spec hb
    rw [nI_clamp (by omega)] at q
    have h5 := (i.ts T h6).1
    have h60 := (i.ts T h6).2.1
    have eS := h.ts T h6
    have eL := h.tl T h6
    show VV _ _ _ _ [.int (nI 1)] _ _
    repeat (first | refine VV.g58 rfl rfl ?_ | refine VV.pf rfl rfl ?_ | refine VV.add rfl ?_ | refine VV.inc rfl rfl rfl ?_ | refine VV.mul rfl ?_ | refine VV.sub rfl (by omega) ?_ | refine VV.shl1 rfl (by omega) ?_ | refine VV.shl rfl ⟨by omega, by omega⟩ ?_ | refine VV.shr rfl ⟨by omega, by omega⟩ ?_ | refine VV.and rfl ?_ | refine VV.div rfl ⟨by omega, by omega, by omega⟩ ?_ | refine VV.rem rfl ⟨by omega, by omega, by omega⟩ ?_ | refine VV.s rfl ?_  | refine VV.b (b_ltT (by omega) (by omega)) ?_ | refine VV.b (b_ltF (by omega) (by omega)) ?_ | refine VV.b (b_geT (by omega) (by omega)) ?_ | refine VV.b (b_geF (by omega) (by omega)) ?_ | refine VV.b (b_gtT (by omega) (by omega)) ?_ | refine VV.b (b_gtF (by omega) (by omega)) ?_ | refine VV.b (b_leT (by omega) (by omega)) ?_ | refine VV.b (b_leF (by omega) (by omega)) ?_ | refine VV.b (b_eqT (by omega) (by omega)) ?_ | refine VV.b (b_eqF (by omega) (by omega)) ?_ | refine VV.b (b_neT (by omega) (by omega)) ?_ | refine VV.b (b_neF (by omega) (by omega)) ?_)
    refine VV.ia rfl rfl rfl (show T < 6 by omega) ?_
    rw [eS]
    by_cases c0 : s.ts T = 0
    · rw [if_pos c0] at q
      rw [c0]
      repeat (first | refine VV.add rfl ?_ | refine VV.inc rfl rfl rfl ?_ | refine VV.mul rfl ?_ | refine VV.sub rfl (by omega) ?_ | refine VV.shl1 rfl (by omega) ?_ | refine VV.shl rfl ⟨by omega, by omega⟩ ?_ | refine VV.shr rfl ⟨by omega, by omega⟩ ?_ | refine VV.and rfl ?_ | refine VV.div rfl ⟨by omega, by omega, by omega⟩ ?_ | refine VV.rem rfl ⟨by omega, by omega, by omega⟩ ?_ | refine VV.s rfl ?_  | refine VV.b (b_ltT (by omega) (by omega)) ?_ | refine VV.b (b_ltF (by omega) (by omega)) ?_ | refine VV.b (b_geT (by omega) (by omega)) ?_ | refine VV.b (b_geF (by omega) (by omega)) ?_ | refine VV.b (b_gtT (by omega) (by omega)) ?_ | refine VV.b (b_gtF (by omega) (by omega)) ?_ | refine VV.b (b_leT (by omega) (by omega)) ?_ | refine VV.b (b_leF (by omega) (by omega)) ?_ | refine VV.b (b_eqT (by omega) (by omega)) ?_ | refine VV.b (b_eqF (by omega) (by omega)) ?_ | refine VV.b (b_neT (by omega) (by omega)) ?_ | refine VV.b (b_neF (by omega) (by omega)) ?_)
      exact VV.r rfl (q τ A B h FM.refl)
    rw [if_neg c0] at q
    repeat (first | refine VV.g58 rfl rfl ?_ | refine VV.pf rfl rfl ?_ | refine VV.add rfl ?_ | refine VV.inc rfl rfl rfl ?_ | refine VV.mul rfl ?_ | refine VV.sub rfl (by omega) ?_ | refine VV.shl1 rfl (by omega) ?_ | refine VV.shl rfl ⟨by omega, by omega⟩ ?_ | refine VV.shr rfl ⟨by omega, by omega⟩ ?_ | refine VV.and rfl ?_ | refine VV.div rfl ⟨by omega, by omega, by omega⟩ ?_ | refine VV.rem rfl ⟨by omega, by omega, by omega⟩ ?_ | refine VV.s rfl ?_  | refine VV.b (b_ltT (by omega) (by omega)) ?_ | refine VV.b (b_ltF (by omega) (by omega)) ?_ | refine VV.b (b_geT (by omega) (by omega)) ?_ | refine VV.b (b_geF (by omega) (by omega)) ?_ | refine VV.b (b_gtT (by omega) (by omega)) ?_ | refine VV.b (b_gtF (by omega) (by omega)) ?_ | refine VV.b (b_leT (by omega) (by omega)) ?_ | refine VV.b (b_leF (by omega) (by omega)) ?_ | refine VV.b (b_eqT (by omega) (by omega)) ?_ | refine VV.b (b_eqF (by omega) (by omega)) ?_ | refine VV.b (b_neT (by omega) (by omega)) ?_ | refine VV.b (b_neF (by omega) (by omega)) ?_)
    refine VV.ia rfl rfl rfl (show T < 6 by omega) ?_
    rw [eL]
    have bad : ltB (s.th T) x = false → VV (d + 3) M_M_item 39 [some (.ref 58), some (.int (nI T)), some (.int x), some (.long v), none] [] (HH S τ A B) Q := by
      intro e
      rw [e] at q
      repeat refine VV.s rfl ?_
      exact VV.r rfl (q τ A B h FM.refl)
    by_cases cz : s.th T = 0
    · have hf : ltB (s.th T) x = false := by
        rw [cz]
        cases e : ltB 0 x with
        | false => rfl
        | true => obtain ⟨k, hk, _⟩ := ltB_spec e; exact absurd hk (Nat.not_lt_zero k)
      have hr : rgB (nI 0) (nI 0 - nI 1) x = false := by
        rcases nI_or x with hx | ⟨k, hk, rfl⟩
        · exact rgB_lo hx
        · refine rgB_hi ?_
          rw [Int32.lt_iff_toInt_lt, nI_toInt hk, show (nI 0 - nI 1).toInt = -1 by decide]
          omega
      have := bad hf
      rw [cz]
      repeat refine VV.s rfl ?_
      (refine VV.c rfl ?_; refine cm_in (lo := nI 0) (hi := nI 0 - nI 1) rfl rfl ?_)
      rw [hr]
      repeat (first | exact this | refine VV.add rfl ?_ | refine VV.inc rfl rfl rfl ?_ | refine VV.mul rfl ?_ | refine VV.sub rfl (by omega) ?_ | refine VV.shl1 rfl (by omega) ?_ | refine VV.shl rfl ⟨by omega, by omega⟩ ?_ | refine VV.shr rfl ⟨by omega, by omega⟩ ?_ | refine VV.and rfl ?_ | refine VV.div rfl ⟨by omega, by omega, by omega⟩ ?_ | refine VV.rem rfl ⟨by omega, by omega, by omega⟩ ?_ | refine VV.s rfl ?_  | refine VV.b (b_ltT (by omega) (by omega)) ?_ | refine VV.b (b_ltF (by omega) (by omega)) ?_ | refine VV.b (b_geT (by omega) (by omega)) ?_ | refine VV.b (b_geF (by omega) (by omega)) ?_ | refine VV.b (b_gtT (by omega) (by omega)) ?_ | refine VV.b (b_gtF (by omega) (by omega)) ?_ | refine VV.b (b_leT (by omega) (by omega)) ?_ | refine VV.b (b_leF (by omega) (by omega)) ?_ | refine VV.b (b_eqT (by omega) (by omega)) ?_ | refine VV.b (b_eqF (by omega) (by omega)) ?_ | refine VV.b (b_neT (by omega) (by omega)) ?_ | refine VV.b (b_neF (by omega) (by omega)) ?_)
    repeat (first | refine VV.add rfl ?_ | refine VV.inc rfl rfl rfl ?_ | refine VV.mul rfl ?_ | refine VV.sub rfl (by omega) ?_ | refine VV.shl1 rfl (by omega) ?_ | refine VV.shl rfl ⟨by omega, by omega⟩ ?_ | refine VV.shr rfl ⟨by omega, by omega⟩ ?_ | refine VV.and rfl ?_ | refine VV.div rfl ⟨by omega, by omega, by omega⟩ ?_ | refine VV.rem rfl ⟨by omega, by omega, by omega⟩ ?_ | refine VV.s rfl ?_  | refine VV.b (b_ltT (by omega) (by omega)) ?_ | refine VV.b (b_ltF (by omega) (by omega)) ?_ | refine VV.b (b_geT (by omega) (by omega)) ?_ | refine VV.b (b_geF (by omega) (by omega)) ?_ | refine VV.b (b_gtT (by omega) (by omega)) ?_ | refine VV.b (b_gtF (by omega) (by omega)) ?_ | refine VV.b (b_leT (by omega) (by omega)) ?_ | refine VV.b (b_leF (by omega) (by omega)) ?_ | refine VV.b (b_eqT (by omega) (by omega)) ?_ | refine VV.b (b_eqF (by omega) (by omega)) ?_ | refine VV.b (b_neT (by omega) (by omega)) ?_ | refine VV.b (b_neF (by omega) (by omega)) ?_)
    (refine VV.c rfl ?_; refine cm_in (lo := nI 0) (hi := nI (s.th T - 1)) rfl rfl ?_)
    rw [rgB_lt (by omega) (by omega)]
    cases hx : ltB (s.th T) x with
    | false =>
      have := bad hx
      repeat (first | exact this | refine VV.add rfl ?_ | refine VV.inc rfl rfl rfl ?_ | refine VV.mul rfl ?_ | refine VV.sub rfl (by omega) ?_ | refine VV.shl1 rfl (by omega) ?_ | refine VV.shl rfl ⟨by omega, by omega⟩ ?_ | refine VV.shr rfl ⟨by omega, by omega⟩ ?_ | refine VV.and rfl ?_ | refine VV.div rfl ⟨by omega, by omega, by omega⟩ ?_ | refine VV.rem rfl ⟨by omega, by omega, by omega⟩ ?_ | refine VV.s rfl ?_  | refine VV.b (b_ltT (by omega) (by omega)) ?_ | refine VV.b (b_ltF (by omega) (by omega)) ?_ | refine VV.b (b_geT (by omega) (by omega)) ?_ | refine VV.b (b_geF (by omega) (by omega)) ?_ | refine VV.b (b_gtT (by omega) (by omega)) ?_ | refine VV.b (b_gtF (by omega) (by omega)) ?_ | refine VV.b (b_leT (by omega) (by omega)) ?_ | refine VV.b (b_leF (by omega) (by omega)) ?_ | refine VV.b (b_eqT (by omega) (by omega)) ?_ | refine VV.b (b_eqF (by omega) (by omega)) ?_ | refine VV.b (b_neT (by omega) (by omega)) ?_ | refine VV.b (b_neF (by omega) (by omega)) ?_)
    | true =>
      rw [hx, if_pos rfl] at q
      obtain ⟨k, hk, rfl⟩ := ltB_spec hx
      rw [nI_clamp (by omega)] at q
      show VV _ _ _ _ [.int (nI 1)] _ _
      repeat (first | refine VV.g58 rfl rfl ?_ | refine VV.pf rfl rfl ?_ | refine VV.add rfl ?_ | refine VV.inc rfl rfl rfl ?_ | refine VV.mul rfl ?_ | refine VV.sub rfl (by omega) ?_ | refine VV.shl1 rfl (by omega) ?_ | refine VV.shl rfl ⟨by omega, by omega⟩ ?_ | refine VV.shr rfl ⟨by omega, by omega⟩ ?_ | refine VV.and rfl ?_ | refine VV.div rfl ⟨by omega, by omega, by omega⟩ ?_ | refine VV.rem rfl ⟨by omega, by omega, by omega⟩ ?_ | refine VV.s rfl ?_  | refine VV.b (b_ltT (by omega) (by omega)) ?_ | refine VV.b (b_ltF (by omega) (by omega)) ?_ | refine VV.b (b_geT (by omega) (by omega)) ?_ | refine VV.b (b_geF (by omega) (by omega)) ?_ | refine VV.b (b_gtT (by omega) (by omega)) ?_ | refine VV.b (b_gtF (by omega) (by omega)) ?_ | refine VV.b (b_leT (by omega) (by omega)) ?_ | refine VV.b (b_leF (by omega) (by omega)) ?_ | refine VV.b (b_eqT (by omega) (by omega)) ?_ | refine VV.b (b_eqF (by omega) (by omega)) ?_ | refine VV.b (b_neT (by omega) (by omega)) ?_ | refine VV.b (b_neF (by omega) (by omega)) ?_)
      refine VV.ia rfl rfl rfl (show T < 6 by omega) ?_
      rw [eS]
      repeat (first | refine VV.add rfl ?_ | refine VV.inc rfl rfl rfl ?_ | refine VV.mul rfl ?_ | refine VV.sub rfl (by omega) ?_ | refine VV.shl1 rfl (by omega) ?_ | refine VV.shl rfl ⟨by omega, by omega⟩ ?_ | refine VV.shr rfl ⟨by omega, by omega⟩ ?_ | refine VV.and rfl ?_ | refine VV.div rfl ⟨by omega, by omega, by omega⟩ ?_ | refine VV.rem rfl ⟨by omega, by omega, by omega⟩ ?_ | refine VV.s rfl ?_  | refine VV.b (b_ltT (by omega) (by omega)) ?_ | refine VV.b (b_ltF (by omega) (by omega)) ?_ | refine VV.b (b_geT (by omega) (by omega)) ?_ | refine VV.b (b_geF (by omega) (by omega)) ?_ | refine VV.b (b_gtT (by omega) (by omega)) ?_ | refine VV.b (b_gtF (by omega) (by omega)) ?_ | refine VV.b (b_leT (by omega) (by omega)) ?_ | refine VV.b (b_leF (by omega) (by omega)) ?_ | refine VV.b (b_eqT (by omega) (by omega)) ?_ | refine VV.b (b_eqF (by omega) (by omega)) ?_ | refine VV.b (b_neT (by omega) (by omega)) ?_ | refine VV.b (b_neF (by omega) (by omega)) ?_)
      (refine VV.c rfl ?_; refine cm_kept (show s.ts T - 1 ≤ 4 by omega) ?_)
      refine VV.js rfl rfl rfl (show 60 * T + k < 360 by omega) ?_
      repeat refine VV.s rfl ?_
      refine VV.r rfl (q _ _ _ (RM.mk h.n h.E h.V h.cm h.ck h.nm h.nt h.sm h.se h.em h.ev h.bm h.bk h.tm h.tx h.ts h.tl (fun u j hu hj => ?_) h.im0 h.im1) (FM.ub (by decide) FM.refl))
      show up (B 84) (60 * T + k) (kpv (s.ts T - 1) v) (60 * u + j) = up s.ti T (up (s.ti T) k (kpv (s.ts T - 1) v)) u j
      by_cases e : u = T
      · subst e
        rw [up_s]
        by_cases e2 : j = k
        · rw [e2, up_s, up_s]
        · rw [up_n (by omega), up_n e2]; exact h.ti u j hu hj
      · rw [up_n (by omega), up_n e]; exact h.ti u j hu hj
end M7
