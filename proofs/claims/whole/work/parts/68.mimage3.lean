/-! the reference's calls image and undo -/
section MQ
variable {d : Nat} {s : St}
theorem m_image (i : IV s) : KM (d + 3) M_M_image [.ref 58] s (oImage s) := by
  intro S τ A B Q h q
  have hn := h.n
  have h4 := i.c.n4
  have k1 := h.cm
  have k2 := h.nm
  have k3 := h.sm
  have k4 := h.em
  have k5 := h.bm
  have b1 := i.c.cm
  have b2 := i.c.nm
  have b3 := i.c.sm
  have b4 := i.c.em
  have b5 := i.c.bm
  refine CC.of rfl ?_
  refine VV.s rfl ?_
  refine VV.s rfl ?_
  refine VV.g58n rfl rfl hn ?_
  refine VV.pf rfl rfl ?_
  refine im_1 (fun F1 x1 h1 => im_2 (fun F2 x2 h2 => im_3 (fun F3 x3 h3 => im_4 (fun F4 x4 h5 => im_5 (fun F5 x5 h6 => im_6 (fun F6 F7 x6 h7 => ?_) x5) x4) x3) x2) x1) none
  repeat (first | refine VV.g58n rfl rfl k1 ?_ | refine VV.g58n rfl rfl k2 ?_ | refine VV.g58n rfl rfl k3 ?_ | refine VV.g58n rfl rfl k4 ?_ | refine VV.g58n rfl rfl k5 ?_ | refine VV.g58 rfl rfl ?_ | refine VV.pf rfl rfl ?_ | refine VV.add rfl ?_ | refine VV.inc rfl rfl rfl ?_ | refine VV.mul rfl ?_ | refine VV.sub rfl (by omega) ?_ | refine VV.shl1 rfl (by omega) ?_ | refine VV.shl rfl ⟨by omega, by omega⟩ ?_ | refine VV.shr rfl ⟨by omega, by omega⟩ ?_ | refine VV.and rfl ?_ | refine VV.div rfl ⟨by omega, by omega, by omega⟩ ?_ | refine VV.rem rfl ⟨by omega, by omega, by omega⟩ ?_ | refine VV.s rfl ?_  | refine VV.b (b_ltT (by omega) (by omega)) ?_ | refine VV.b (b_ltF (by omega) (by omega)) ?_ | refine VV.b (b_geT (by omega) (by omega)) ?_ | refine VV.b (b_geF (by omega) (by omega)) ?_ | refine VV.b (b_gtT (by omega) (by omega)) ?_ | refine VV.b (b_gtF (by omega) (by omega)) ?_ | refine VV.b (b_leT (by omega) (by omega)) ?_ | refine VV.b (b_leF (by omega) (by omega)) ?_ | refine VV.b (b_eqT (by omega) (by omega)) ?_ | refine VV.b (b_eqF (by omega) (by omega)) ?_ | refine VV.b (b_neT (by omega) (by omega)) ?_ | refine VV.b (b_neF (by omega) (by omega)) ?_)
  refine VV.r rfl (q _ _ _ (RM.mk h.n h.E h.V h.cm h.ck h.nm h.nt h.sm h.se h.em h.ev h.bm h.bk h.tm h.tx h.ts h.tl h.ti (fun e => (by cases e)) (fun c e => ?_)) (FM.ut (by decide) (FM.ut (by decide) (FM.ut (by decide) (FM.ut (by decide) (FM.ut (by decide) (FM.ut (by decide) (FM.ua (by decide) (FM.ua (by decide) (FM.ua (by decide) (FM.ua (by decide) (FM.ua (by decide) (FM.ua (by decide) (FM.ua (by decide) FM.refl))))))))))))))
  cases e
  refine ⟨rfl, fun a b ha hb => ?_, fun j hj => ?_, ⟨rfl, fun k w hk hw => ?_⟩, ⟨rfl, fun k hk => ?_⟩, ⟨rfl, fun k w hk hw => ?_⟩, ⟨rfl, fun k w hk hw => ?_⟩, ⟨rfl, fun k w hk hw => ?_⟩⟩
  · show (F1 (4 * a + b)).toInt64 = _
    rw [h1 _ (by omega)]
    exact h.E a b ha hb
  · show (F2 j).toInt64 = _
    rw [show F2 j = A 60 j from h2 j hj]
    exact h.V j hj
  · show F3 (3 * k + w) = _
    obtain ⟨z1, z2, z3⟩ := h3 k (by omega)
    obtain ⟨y1, y2, y3⟩ := h.ck k hk
    rcases (show w = 0 ∨ w = 1 ∨ w = 2 by omega) with rfl | rfl | rfl
    · exact z1.trans y1
    · exact z2.trans y2
    · exact z3.trans y3
  · show F4 k = _
    rw [show F4 k = A 62 k from h5 k (by omega)]
    exact h.nt k hk
  · show F5 (3 * k + w) = _
    obtain ⟨z1, z2, z3⟩ := h6 k (by omega)
    obtain ⟨y1, y2, y3⟩ := h.se k hk
    rcases (show w = 0 ∨ w = 1 ∨ w = 2 by omega) with rfl | rfl | rfl
    · exact z1.trans y1
    · exact z2.trans y2
    · exact z3.trans y3
  · show F6 (2 * k + w) = _
    obtain ⟨z1, z2, _, _⟩ := h7 k (by omega)
    obtain ⟨y1, y2⟩ := h.ev k hk
    rcases (show w = 0 ∨ w = 1 by omega) with rfl | rfl
    · exact z1.trans y1
    · exact z2.trans y2
  · show F7 (2 * k + w) = _
    obtain ⟨_, _, z1, z2⟩ := h7 k (by omega)
    obtain ⟨y1, y2⟩ := h.bk k hk
    rcases (show w = 0 ∨ w = 1 by omega) with rfl | rfl
    · exact z1.trans y1
    · exact z2.trans y2
theorem m_undo (i : IV s) : KM (d + 3) M_M_undo [.ref 58] s (oUndo s) := by
  intro S τ A B Q h q
  unfold oUndo at q
  refine CC.of rfl ?_
  cases e : s.im with
  | none =>
    rw [e] at q
    have h0 := h.im0 e
    repeat (first | refine VV.g58n rfl rfl h0 ?_ | refine VV.g58 rfl rfl ?_ | refine VV.pf rfl rfl ?_ | refine VV.add rfl ?_ | refine VV.inc rfl rfl rfl ?_ | refine VV.mul rfl ?_ | refine VV.sub rfl (by omega) ?_ | refine VV.shl1 rfl (by omega) ?_ | refine VV.shl rfl ⟨by omega, by omega⟩ ?_ | refine VV.shr rfl ⟨by omega, by omega⟩ ?_ | refine VV.and rfl ?_ | refine VV.div rfl ⟨by omega, by omega, by omega⟩ ?_ | refine VV.rem rfl ⟨by omega, by omega, by omega⟩ ?_ | refine VV.s rfl ?_  | refine VV.b (b_ltT (by omega) (by omega)) ?_ | refine VV.b (b_ltF (by omega) (by omega)) ?_ | refine VV.b (b_geT (by omega) (by omega)) ?_ | refine VV.b (b_geF (by omega) (by omega)) ?_ | refine VV.b (b_gtT (by omega) (by omega)) ?_ | refine VV.b (b_gtF (by omega) (by omega)) ?_ | refine VV.b (b_leT (by omega) (by omega)) ?_ | refine VV.b (b_leF (by omega) (by omega)) ?_ | refine VV.b (b_eqT (by omega) (by omega)) ?_ | refine VV.b (b_eqF (by omega) (by omega)) ?_ | refine VV.b (b_neT (by omega) (by omega)) ?_ | refine VV.b (b_neF (by omega) (by omega)) ?_)
    exact VV.r rfl (q τ A B h FM.refl)
  | some c =>
    rw [e] at q
    obtain ⟨g1, g2, g3, ⟨k1, g4⟩, ⟨k2, g5⟩, ⟨k3, g6⟩, ⟨k4, g7⟩, ⟨k5, g8⟩⟩ := h.im1 c e
    have ic := i.im c e
    have n2 := ic.n2
    have n4 := ic.n4
    have b1 := ic.cm
    have b2 := ic.nm
    have b3 := ic.sm
    have b4 := ic.em
    have b5 := ic.bm
    refine VV.s rfl ?_
    refine VV.g58n rfl rfl g1 ?_
    refine VV.s rfl ?_
    refine VV.b (b_neT (by omega) (by omega)) ?_
    refine VV.s rfl ?_
    refine VV.s rfl ?_
    refine VV.g58n rfl rfl g1 ?_
    refine VV.pf rfl rfl ?_
    refine un_1 (fun F1 x1 h1 => un_2 (fun F2 x2 h2 => un_3 (fun G1 G2 G3 x3 h3 => un_4 (fun F4 x4 h5 => un_5 (fun H1 H2 H3 x5 h6 => un_6 (fun K1 K2 K3 K4 x6 h7 => ?_) x5) x4) x3) x2) x1) none
    repeat (first | refine VV.g58n rfl rfl k1 ?_ | refine VV.g58n rfl rfl k2 ?_ | refine VV.g58n rfl rfl k3 ?_ | refine VV.g58n rfl rfl k4 ?_ | refine VV.g58n rfl rfl k5 ?_ | refine VV.g58 rfl rfl ?_ | refine VV.pf rfl rfl ?_ | refine VV.add rfl ?_ | refine VV.inc rfl rfl rfl ?_ | refine VV.mul rfl ?_ | refine VV.sub rfl (by omega) ?_ | refine VV.shl1 rfl (by omega) ?_ | refine VV.shl rfl ⟨by omega, by omega⟩ ?_ | refine VV.shr rfl ⟨by omega, by omega⟩ ?_ | refine VV.and rfl ?_ | refine VV.div rfl ⟨by omega, by omega, by omega⟩ ?_ | refine VV.rem rfl ⟨by omega, by omega, by omega⟩ ?_ | refine VV.s rfl ?_  | refine VV.b (b_ltT (by omega) (by omega)) ?_ | refine VV.b (b_ltF (by omega) (by omega)) ?_ | refine VV.b (b_geT (by omega) (by omega)) ?_ | refine VV.b (b_geF (by omega) (by omega)) ?_ | refine VV.b (b_gtT (by omega) (by omega)) ?_ | refine VV.b (b_gtF (by omega) (by omega)) ?_ | refine VV.b (b_leT (by omega) (by omega)) ?_ | refine VV.b (b_leF (by omega) (by omega)) ?_ | refine VV.b (b_eqT (by omega) (by omega)) ?_ | refine VV.b (b_eqF (by omega) (by omega)) ?_ | refine VV.b (b_neT (by omega) (by omega)) ?_ | refine VV.b (b_neF (by omega) (by omega)) ?_)
    refine VV.r rfl (q _ _ _ (RM.mk (rfl) (fun a b ha hb => ?_) (fun j hj => ?_) (rfl) (fun k hk => ?_) (rfl) (fun k hk => ?_) (rfl) (fun k hk => ?_) (rfl) (fun k hk => ?_) (rfl) (fun k hk => ?_) h.tm h.tx h.ts h.tl h.ti h.im0 h.im1) ?_)
    · have ha2 : a < c.n := ha
      have hb2 : b < c.n := hb
      show (F1 (4 * a + b)).toInt64 = _
      rw [h1 _ (by omega)]
      exact g2 a b ha hb
    · show (F2 j).toInt64 = _
      rw [show F2 j = A 87 j from h2 j hj]
      exact g3 j hj
    · have hk2 : k < c.m 1 := hk
      obtain ⟨z1, z2, z3⟩ := h3 k (by omega)
      exact ⟨z1.trans (g4 k 0 hk (by omega)), z2.trans (g4 k 1 hk (by omega)), z3.trans (g4 k 2 hk (by omega))⟩
    · have hk2 : k < c.m 2 := hk
      show F4 k = _
      rw [show F4 k = A 89 k from h5 k (by omega)]
      exact g5 k hk
    · have hk2 : k < c.m 3 := hk
      obtain ⟨z1, z2, z3⟩ := h6 k (by omega)
      exact ⟨z1.trans (g6 k 0 hk (by omega)), z2.trans (g6 k 1 hk (by omega)), z3.trans (g6 k 2 hk (by omega))⟩
    · have hk2 : k < c.m 4 := hk
      obtain ⟨z1, z2, _, _⟩ := h7 k (by omega)
      exact ⟨z1.trans (g7 k 0 hk (by omega)), z2.trans (g7 k 1 hk (by omega))⟩
    · have hk2 : k < c.m 5 := hk
      obtain ⟨_, _, z1, z2⟩ := h7 k (by omega)
      exact ⟨z1.trans (g8 k 0 hk (by omega)), z2.trans (g8 k 1 hk (by omega))⟩
    · exact FM.ut (by decide) (FM.ut (by decide) (FM.ut (by decide) (FM.ut (by decide) (FM.ut (by decide) (FM.ut (by decide) (FM.ua (by decide) (FM.ua (by decide) (FM.ua (by decide) (FM.ua (by decide) (FM.ua (by decide) (FM.ua (by decide) (FM.ua (by decide) (FM.ua (by decide) (FM.ua (by decide) (FM.ua (by decide) (FM.ua (by decide) (FM.ua (by decide) (FM.ua (by decide) FM.refl))))))))))))))))))
end MQ
