/-! the reference's calls: may, fits, unlike -/
section M6
variable {d : Nat} {s : St}
theorem m_may (i : IV s) {x w : Int32} : KM (d + 7) M_M_may [.ref 58, .int x, .int w] s (oMay s x w) := by
  intro S τ A B Q h q
  unfold oMay at q
  have hn := h.n
  have h4 := i.c.n4
  have h2 := i.c.n2
  have bad : ¬ (spB s.c.n x = true ∧ rgB (nI 0) (nI 2) w = true) → VV (d + 7) M_M_may 20 [some (.ref 58), some (.int x), some (.int w), none, none, none, none, none] [] (HH S τ A B) Q := by
    intro e
    rw [if_neg e] at q
    repeat refine VV.s rfl ?_
    exact VV.r rfl (q τ A B h FM.refl)
  refine CC.of rfl ?_
  repeat refine VV.s rfl ?_
  (refine VV.c rfl ?_; refine cm_isSpot hn h4 ?_)
  cases hb : spB s.c.n x with
  | false =>
    have := bad (fun z => by rw [hb] at z; cases z.1)
    repeat (first | exact this | refine VV.add rfl ?_ | refine VV.inc rfl rfl rfl ?_ | refine VV.mul rfl ?_ | refine VV.sub rfl (by omega) ?_ | refine VV.shl1 rfl (by omega) ?_ | refine VV.shl rfl ⟨by omega, by omega⟩ ?_ | refine VV.shr rfl ⟨by omega, by omega⟩ ?_ | refine VV.and rfl ?_ | refine VV.div rfl ⟨by omega, by omega, by omega⟩ ?_ | refine VV.rem rfl ⟨by omega, by omega, by omega⟩ ?_ | refine VV.s rfl ?_  | refine VV.b (b_ltT (by omega) (by omega)) ?_ | refine VV.b (b_ltF (by omega) (by omega)) ?_ | refine VV.b (b_geT (by omega) (by omega)) ?_ | refine VV.b (b_geF (by omega) (by omega)) ?_ | refine VV.b (b_gtT (by omega) (by omega)) ?_ | refine VV.b (b_gtF (by omega) (by omega)) ?_ | refine VV.b (b_leT (by omega) (by omega)) ?_ | refine VV.b (b_leF (by omega) (by omega)) ?_ | refine VV.b (b_eqT (by omega) (by omega)) ?_ | refine VV.b (b_eqF (by omega) (by omega)) ?_ | refine VV.b (b_neT (by omega) (by omega)) ?_ | refine VV.b (b_neF (by omega) (by omega)) ?_)
  | true =>
    show VV _ _ _ _ [.int (nI 1)] _ _
    repeat (first | refine VV.add rfl ?_ | refine VV.inc rfl rfl rfl ?_ | refine VV.mul rfl ?_ | refine VV.sub rfl (by omega) ?_ | refine VV.shl1 rfl (by omega) ?_ | refine VV.shl rfl ⟨by omega, by omega⟩ ?_ | refine VV.shr rfl ⟨by omega, by omega⟩ ?_ | refine VV.and rfl ?_ | refine VV.div rfl ⟨by omega, by omega, by omega⟩ ?_ | refine VV.rem rfl ⟨by omega, by omega, by omega⟩ ?_ | refine VV.s rfl ?_  | refine VV.b (b_ltT (by omega) (by omega)) ?_ | refine VV.b (b_ltF (by omega) (by omega)) ?_ | refine VV.b (b_geT (by omega) (by omega)) ?_ | refine VV.b (b_geF (by omega) (by omega)) ?_ | refine VV.b (b_gtT (by omega) (by omega)) ?_ | refine VV.b (b_gtF (by omega) (by omega)) ?_ | refine VV.b (b_leT (by omega) (by omega)) ?_ | refine VV.b (b_leF (by omega) (by omega)) ?_ | refine VV.b (b_eqT (by omega) (by omega)) ?_ | refine VV.b (b_eqF (by omega) (by omega)) ?_ | refine VV.b (b_neT (by omega) (by omega)) ?_ | refine VV.b (b_neF (by omega) (by omega)) ?_)
    (refine VV.c rfl ?_; refine cm_in (lo := nI 0) (hi := nI 2) rfl rfl ?_)
    cases hr : rgB (nI 0) (nI 2) w with
    | false =>
      have := bad (fun z => by rw [hr] at z; cases z.2)
      repeat (first | exact this | refine VV.add rfl ?_ | refine VV.inc rfl rfl rfl ?_ | refine VV.mul rfl ?_ | refine VV.sub rfl (by omega) ?_ | refine VV.shl1 rfl (by omega) ?_ | refine VV.shl rfl ⟨by omega, by omega⟩ ?_ | refine VV.shr rfl ⟨by omega, by omega⟩ ?_ | refine VV.and rfl ?_ | refine VV.div rfl ⟨by omega, by omega, by omega⟩ ?_ | refine VV.rem rfl ⟨by omega, by omega, by omega⟩ ?_ | refine VV.s rfl ?_  | refine VV.b (b_ltT (by omega) (by omega)) ?_ | refine VV.b (b_ltF (by omega) (by omega)) ?_ | refine VV.b (b_geT (by omega) (by omega)) ?_ | refine VV.b (b_geF (by omega) (by omega)) ?_ | refine VV.b (b_gtT (by omega) (by omega)) ?_ | refine VV.b (b_gtF (by omega) (by omega)) ?_ | refine VV.b (b_leT (by omega) (by omega)) ?_ | refine VV.b (b_leF (by omega) (by omega)) ?_ | refine VV.b (b_eqT (by omega) (by omega)) ?_ | refine VV.b (b_eqF (by omega) (by omega)) ?_ | refine VV.b (b_neT (by omega) (by omega)) ?_ | refine VV.b (b_neF (by omega) (by omega)) ?_)
    | true =>
      rw [if_pos ⟨hb, hr⟩] at q
      obtain ⟨a, b, ha, hb10, hbn, rfl, hab⟩ := spB_spec hb
      rw [cel_nI hb10 hab] at q
      have V := VV.inv (fun k (p : Nat × Int32 × Int32) => p = mS (mayP s.c.E s.c.n (4 * a + b)) k) (fun k p => ∀ y, VV (d + 7) M_M_may 47 [some (.ref 58), some (.int (nI (10 * a + b))), some (.int w), some (.int (A 59 (4 * a + b))), some (.int (nI p.1)), some (.int p.2.1), some (.int p.2.2), some (.int (vI k))] [] (HH S τ (up A 59 (up (A 59) (4 * a + b) y)) B) Q) 199 ?_ ?_ 199 0 (0, -(nI 5), -(nI 5)) (by omega) rfl (A 59 (4 * a + b))
      · rw [up_id, up_id, vI_0] at V
        show VV _ _ _ _ [.int (nI 1)] _ _
        refine VV.s rfl ?_
        refine VV.b (b_neT (by omega) (by omega)) ?_
        refine VV.s rfl ?_
        refine VV.g58 rfl rfl ?_
        refine VV.s rfl ?_
        (refine VV.c rfl ?_; refine cm_cell (show a < 4 by omega) (show b < 4 by omega) ?_)
        refine VV.ia rfl rfl rfl (show 4 * a + b < 16 by omega) ?_
        repeat (first | exact V | refine VV.s rfl ?_)
      · intro k p hk hp nxt y
        have hle := mS_le (mayP s.c.E s.c.n (4 * a + b)) k
        have hls := mS_ls (mayP s.c.E s.c.n (4 * a + b)) k (by omega)
        rw [← hp] at hle hls
        have nx2 := nxt _ (show mS _ (k + 1) = mS _ (k + 1) from rfl) (vI k)
        rw [mS, ← hp] at nx2
        refine VV.s rfl ?_
        refine VV.s rfl ?_
        refine VV.s rfl ?_
        refine VV.i (fun c => absurd ((vI_gt (by omega)).mp c) (by omega)) (fun _ => ?_)
        refine VV.s rfl ?_
        refine VV.g58 rfl rfl ?_
        refine VV.s rfl ?_
        (refine VV.c rfl ?_; refine cm_cell (show a < 4 by omega) (show b < 4 by omega) ?_)
        refine VV.s rfl ?_
        refine VV.is rfl rfl rfl (show 4 * a + b < 16 by omega) ?_
        rw [up_up, up_s, up_up]
        refine VV.s rfl ?_
        refine VV.s rfl ?_
        refine VV.g58 rfl rfl ?_
        have hE : ∀ k2 l, k2 < s.c.n → l < s.c.n → (up A 59 (up (A 59) (4 * a + b) (vI k)) 59 (4 * k2 + l)).toInt64 = up s.c.E (4 * a + b) (vI k).toInt64 (4 * k2 + l) := fun k2 l hk2 hl => by
          rw [up_s]
          by_cases e : 4 * k2 + l = 4 * a + b
          · rw [e, up_s, up_s]
          · rw [up_n e, up_n e]; exact h.E k2 l hk2 hl
        (refine VV.c rfl ?_; refine cm_isPositive (a := 59) rfl rfl hn h2 h4 hE (up_b i.c.E (vI_bd hk)) ?_)
        by_cases c : amI (up s.c.E (4 * a + b) (vI k).toInt64) s.c.n s.c.n 0 = none
        · rw [decide_eq_true c]
          have hP : mayP s.c.E s.c.n (4 * a + b) k = true := decide_eq_true c
          rw [if_pos hP] at nx2
          show VV _ _ _ _ [.int (nI 1)] _ _
          refine VV.s rfl ?_
          refine VV.b (b_neT (by omega) (by omega)) ?_
          refine VV.inc rfl rfl rfl ?_
          refine VV.s rfl ?_
          refine VV.s rfl ?_
          refine VV.s rfl ?_
          rcases hls with ⟨z1, z2⟩ | ⟨z1, j, hj, z2⟩
          · rw [if_pos z1] at nx2
            refine VV.i (fun _ => ?_) (fun z => absurd z2 z)
            refine VV.s rfl ?_
            refine VV.s rfl ?_
            refine VV.s rfl ?_
            rw [vI_h]
            refine VV.s rfl ?_
            refine VV.s rfl ?_
            refine VV.s rfl ?_
            refine VV.s rfl ?_
            refine VV.s rfl ?_
            rw [vI_h]
            refine VV.s rfl ?_
            refine VV.inc1 rfl rfl rfl ?_
            repeat (first | exact nx2 | refine VV.s rfl ?_)
          · rw [if_neg z1] at nx2
            refine VV.i (fun z => absurd (z2.symm.trans z) (nI_n5 hj)) (fun _ => ?_)
            refine VV.s rfl ?_
            refine VV.s rfl ?_
            refine VV.s rfl ?_
            refine VV.s rfl ?_
            refine VV.s rfl ?_
            rw [vI_h]
            refine VV.s rfl ?_
            refine VV.inc1 rfl rfl rfl ?_
            repeat (first | exact nx2 | refine VV.s rfl ?_)
        · rw [decide_eq_false c]
          have hP : mayP s.c.E s.c.n (4 * a + b) k = false := decide_eq_false c
          rw [if_neg (by rw [hP]; decide)] at nx2
          show VV _ _ _ _ [.int (nI 0)] _ _
          refine VV.s rfl ?_
          refine VV.b (b_neF rfl (by omega)) ?_
          refine VV.s rfl ?_
          refine VV.inc1 rfl rfl rfl ?_
          repeat (first | exact nx2 | refine VV.s rfl ?_)
      · intro p hp y
        subst hp
        have q2 := q τ A B h FM.refl
        unfold pick3 at q2
        refine VV.s rfl ?_
        refine VV.s rfl ?_
        refine VV.s rfl ?_
        refine VV.b (q := 114) (by decide) ?_
        refine VV.s rfl ?_
        refine VV.g58 rfl rfl ?_
        refine VV.s rfl ?_
        (refine VV.c rfl ?_; refine cm_cell (show a < 4 by omega) (show b < 4 by omega) ?_)
        refine VV.s rfl ?_
        refine VV.is rfl rfl rfl (show 4 * a + b < 16 by omega) ?_
        rw [up_up, up_s, up_up, up_id, up_id]
        refine VV.s rfl ?_
        refine VV.s rfl ?_
        refine VV.i (fun c3 => ?_) (fun c3 => ?_)
        · rw [if_pos (show w = nI 0 from c3)] at q2
          repeat refine VV.s rfl ?_
          exact VV.r rfl q2
        rw [if_neg (show ¬ w = nI 0 from c3)] at q2
        refine VV.s rfl ?_
        refine VV.s rfl ?_
        refine VV.s rfl ?_
        refine VV.i (fun c4 => ?_) (fun c4 => ?_)
        · rw [if_pos c4] at q2
          repeat refine VV.s rfl ?_
          exact VV.r rfl q2
        rw [if_neg c4] at q2
        repeat refine VV.s rfl ?_
        exact VV.r rfl q2
theorem m_fits (i : IV s) {x w : Int32} : KM (d + 7) M_M_fits [.ref 58, .int x, .int w] s (oFits s x w) := by
  intro S τ A B Q h q
  unfold oFits at q
  have hn := h.n
  have h4 := i.c.n4
  have h2 := i.c.n2
  have bad : ¬ (spB s.c.n x = true ∧ o01 w = true) → VV (d + 7) M_M_fits 18 [some (.ref 58), some (.int x), some (.int w), none, none, none, none] [] (HH S τ A B) Q := by
    intro e
    rw [if_neg e] at q
    repeat refine VV.s rfl ?_
    exact VV.r rfl (q τ A B h FM.refl)
  refine CC.of rfl ?_
  repeat refine VV.s rfl ?_
  (refine VV.c rfl ?_; refine cm_isSpot hn h4 ?_)
  cases hb : spB s.c.n x with
  | false =>
    have := bad (fun z => by rw [hb] at z; cases z.1)
    repeat (first | exact this | refine VV.add rfl ?_ | refine VV.inc rfl rfl rfl ?_ | refine VV.mul rfl ?_ | refine VV.sub rfl (by omega) ?_ | refine VV.shl1 rfl (by omega) ?_ | refine VV.shl rfl ⟨by omega, by omega⟩ ?_ | refine VV.shr rfl ⟨by omega, by omega⟩ ?_ | refine VV.and rfl ?_ | refine VV.div rfl ⟨by omega, by omega, by omega⟩ ?_ | refine VV.rem rfl ⟨by omega, by omega, by omega⟩ ?_ | refine VV.s rfl ?_  | refine VV.b (b_ltT (by omega) (by omega)) ?_ | refine VV.b (b_ltF (by omega) (by omega)) ?_ | refine VV.b (b_geT (by omega) (by omega)) ?_ | refine VV.b (b_geF (by omega) (by omega)) ?_ | refine VV.b (b_gtT (by omega) (by omega)) ?_ | refine VV.b (b_gtF (by omega) (by omega)) ?_ | refine VV.b (b_leT (by omega) (by omega)) ?_ | refine VV.b (b_leF (by omega) (by omega)) ?_ | refine VV.b (b_eqT (by omega) (by omega)) ?_ | refine VV.b (b_eqF (by omega) (by omega)) ?_ | refine VV.b (b_neT (by omega) (by omega)) ?_ | refine VV.b (b_neF (by omega) (by omega)) ?_)
  | true =>
    show VV _ _ _ _ [.int (nI 1)] _ _
    repeat (first | refine VV.add rfl ?_ | refine VV.inc rfl rfl rfl ?_ | refine VV.mul rfl ?_ | refine VV.sub rfl (by omega) ?_ | refine VV.shl1 rfl (by omega) ?_ | refine VV.shl rfl ⟨by omega, by omega⟩ ?_ | refine VV.shr rfl ⟨by omega, by omega⟩ ?_ | refine VV.and rfl ?_ | refine VV.div rfl ⟨by omega, by omega, by omega⟩ ?_ | refine VV.rem rfl ⟨by omega, by omega, by omega⟩ ?_ | refine VV.s rfl ?_  | refine VV.b (b_ltT (by omega) (by omega)) ?_ | refine VV.b (b_ltF (by omega) (by omega)) ?_ | refine VV.b (b_geT (by omega) (by omega)) ?_ | refine VV.b (b_geF (by omega) (by omega)) ?_ | refine VV.b (b_gtT (by omega) (by omega)) ?_ | refine VV.b (b_gtF (by omega) (by omega)) ?_ | refine VV.b (b_leT (by omega) (by omega)) ?_ | refine VV.b (b_leF (by omega) (by omega)) ?_ | refine VV.b (b_eqT (by omega) (by omega)) ?_ | refine VV.b (b_eqF (by omega) (by omega)) ?_ | refine VV.b (b_neT (by omega) (by omega)) ?_ | refine VV.b (b_neF (by omega) (by omega)) ?_)
    (refine VV.c rfl ?_; refine cm_in (lo := nI 0) (hi := nI 1) rfl rfl ?_)
    rw [o01_rg]
    cases hr : o01 w with
    | false =>
      have := bad (fun z => by rw [hr] at z; cases z.2)
      repeat (first | exact this | refine VV.add rfl ?_ | refine VV.inc rfl rfl rfl ?_ | refine VV.mul rfl ?_ | refine VV.sub rfl (by omega) ?_ | refine VV.shl1 rfl (by omega) ?_ | refine VV.shl rfl ⟨by omega, by omega⟩ ?_ | refine VV.shr rfl ⟨by omega, by omega⟩ ?_ | refine VV.and rfl ?_ | refine VV.div rfl ⟨by omega, by omega, by omega⟩ ?_ | refine VV.rem rfl ⟨by omega, by omega, by omega⟩ ?_ | refine VV.s rfl ?_  | refine VV.b (b_ltT (by omega) (by omega)) ?_ | refine VV.b (b_ltF (by omega) (by omega)) ?_ | refine VV.b (b_geT (by omega) (by omega)) ?_ | refine VV.b (b_geF (by omega) (by omega)) ?_ | refine VV.b (b_gtT (by omega) (by omega)) ?_ | refine VV.b (b_gtF (by omega) (by omega)) ?_ | refine VV.b (b_leT (by omega) (by omega)) ?_ | refine VV.b (b_leF (by omega) (by omega)) ?_ | refine VV.b (b_eqT (by omega) (by omega)) ?_ | refine VV.b (b_eqF (by omega) (by omega)) ?_ | refine VV.b (b_neT (by omega) (by omega)) ?_ | refine VV.b (b_neF (by omega) (by omega)) ?_)
    | true =>
      rw [if_pos ⟨hb, hr⟩] at q
      obtain ⟨a, b, ha, hb10, hbn, rfl, hab⟩ := spB_spec hb
      rw [cel_nI hb10 hab] at q
      have V := VV.inv (fun k (p : Nat × Int32) => p = fS (fitP s.c.E s.c.n (s.c.r 3) (s.c.m 3) (4 * a + b)) k) (fun k p => ∀ y, VV (d + 7) M_M_fits 40 [some (.ref 58), some (.int (nI (10 * a + b))), some (.int w), some (.int (A 59 (4 * a + b))), some (.int (nI p.1)), some (.int p.2), some (.int (vI k))] [] (HH S τ (up A 59 (up (A 59) (4 * a + b) y)) B) Q) 199 ?_ ?_ 199 0 (0, nI 0) (by omega) rfl (A 59 (4 * a + b))
      · rw [up_id, up_id, vI_0] at V
        show VV _ _ _ _ [.int (nI 1)] _ _
        refine VV.s rfl ?_
        refine VV.b (b_neT (by omega) (by omega)) ?_
        refine VV.s rfl ?_
        refine VV.g58 rfl rfl ?_
        refine VV.s rfl ?_
        (refine VV.c rfl ?_; refine cm_cell (show a < 4 by omega) (show b < 4 by omega) ?_)
        refine VV.ia rfl rfl rfl (show 4 * a + b < 16 by omega) ?_
        repeat (first | exact V | refine VV.s rfl ?_)
      · intro k p hk hp nxt y
        have hle := fS_le (fitP s.c.E s.c.n (s.c.r 3) (s.c.m 3) (4 * a + b)) k
        rw [← hp] at hle
        have nx2 := nxt _ (show fS _ (k + 1) = fS _ (k + 1) from rfl) (vI k)
        rw [fS, ← hp] at nx2
        refine VV.s rfl ?_
        refine VV.s rfl ?_
        refine VV.s rfl ?_
        refine VV.i (fun c => absurd ((vI_gt (by omega)).mp c) (by omega)) (fun _ => ?_)
        refine VV.s rfl ?_
        refine VV.g58 rfl rfl ?_
        refine VV.s rfl ?_
        (refine VV.c rfl ?_; refine cm_cell (show a < 4 by omega) (show b < 4 by omega) ?_)
        refine VV.s rfl ?_
        refine VV.is rfl rfl rfl (show 4 * a + b < 16 by omega) ?_
        rw [up_up, up_s, up_up]
        refine VV.s rfl ?_
        have hE : ∀ k2 l, k2 < s.c.n → l < s.c.n → (up A 59 (up (A 59) (4 * a + b) (vI k)) 59 (4 * k2 + l)).toInt64 = up s.c.E (4 * a + b) (vI k).toInt64 (4 * k2 + l) := fun k2 l hk2 hl => by
          rw [up_s]
          by_cases e : 4 * k2 + l = 4 * a + b
          · rw [e, up_s, up_s]
          · rw [up_n e, up_n e]; exact h.E k2 l hk2 hl
        (refine VV.c rfl ?_; refine cm_isSeen hn h4 i.c.sm h.sm hE h.se ?_)
        have hF : ∀ bb, fitP s.c.E s.c.n (s.c.r 3) (s.c.m 3) (4 * a + b) k = bb → (List.range (s.c.m 3)).all (fun l => mnB s.c.n (s.c.r 3 l 0) (s.c.r 3 l 1) && decide (mnr (up s.c.E (4 * a + b) (vI k).toInt64) (s.c.r 3 l 0).toNatClampNeg (s.c.r 3 l 1).toNatClampNeg = (s.c.r 3 l 2).toInt64)) = bb := fun bb e => e
        cases hP : fitP s.c.E s.c.n (s.c.r 3) (s.c.m 3) (4 * a + b) k with
        | true =>
          rw [hF true hP]
          rw [if_pos hP] at nx2
          show VV _ _ _ _ [.int (nI 1)] _ _
          refine VV.s rfl ?_
          refine VV.b (b_neT (by omega) (by omega)) ?_
          refine VV.s rfl ?_
          by_cases c0 : p.1 = 0
          · rw [if_pos c0] at nx2
            refine VV.s rfl ?_
            refine VV.b (b_neF (b := 0) c0 (by omega)) ?_
            refine VV.s rfl ?_
            refine VV.s rfl ?_
            refine VV.s rfl ?_
            rw [vI_h]
            refine VV.s rfl ?_
            refine VV.s rfl ?_
            refine VV.inc rfl rfl rfl ?_
            refine VV.inc1 rfl rfl rfl ?_
            repeat (first | exact nx2 | refine VV.s rfl ?_)
          · rw [if_neg c0] at nx2
            refine VV.s rfl ?_
            refine VV.b (b_neT (b := 0) c0 (by omega)) ?_
            refine VV.s rfl ?_
            refine VV.s rfl ?_
            refine VV.inc rfl rfl rfl ?_
            refine VV.inc1 rfl rfl rfl ?_
            repeat (first | exact nx2 | refine VV.s rfl ?_)
        | false =>
          rw [hF false hP]
          rw [if_neg (by rw [hP]; decide)] at nx2
          show VV _ _ _ _ [.int (nI 0)] _ _
          refine VV.s rfl ?_
          refine VV.b (b_neF rfl (by omega)) ?_
          refine VV.s rfl ?_
          refine VV.inc1 rfl rfl rfl ?_
          repeat (first | exact nx2 | refine VV.s rfl ?_)
      · intro p hp y
        subst hp
        have q2 := q τ A B h FM.refl
        refine VV.s rfl ?_
        refine VV.s rfl ?_
        refine VV.s rfl ?_
        refine VV.b (q := 94) (by decide) ?_
        refine VV.s rfl ?_
        refine VV.g58 rfl rfl ?_
        refine VV.s rfl ?_
        (refine VV.c rfl ?_; refine cm_cell (show a < 4 by omega) (show b < 4 by omega) ?_)
        refine VV.s rfl ?_
        refine VV.is rfl rfl rfl (show 4 * a + b < 16 by omega) ?_
        rw [up_up, up_s, up_up, up_id, up_id]
        refine VV.s rfl ?_
        refine VV.s rfl ?_
        refine VV.i (fun c3 => ?_) (fun c3 => ?_)
        · rw [if_pos (show w = nI 0 from c3)] at q2
          repeat refine VV.s rfl ?_
          exact VV.r rfl q2
        rw [if_neg (show ¬ w = nI 0 from c3)] at q2
        repeat refine VV.s rfl ?_
        exact VV.r rfl q2
end M6
