/-! the law's loop -/
section LAW
variable {Ls j : Nat} {xs : Nat → Int32} {d u pc nx ax : Nat} {ng : Bool} {sw : List (Nat × Nat)} {L : Lc} {r : List Value} {τ : Nat → Int32} {A : Nat → Nat → Int32} {B : Nat → Nat → Int64} {s : St} {Q : Option Value → Hp → Prop}
theorem scr_nth (hj : j < Ls) : nth (scrV Ls xs) j = some (.int (xs j)) := mkI_nth xs hj
theorem scr_len : (scrV Ls xs).length = Ls := by simp [scrV]
theorem VV.sc (e : codeAt u pc = some (.iaload, nx, ax, ng, sw)) (hj : j < Ls) (h31 : j < 2147483648) (g : VV d u nx L (.int (xs j) :: r) (HH (103, scrV Ls xs) τ A B) Q) : VV d u pc L (.int (nI j) :: .ref 0 :: r) (HH (103, scrV Ls xs) τ A B) Q := by
  refine VV.s (pc' := nx) (L' := L) (st' := .int (xs j) :: r) (h' := HH (103, scrV Ls xs) τ A B) ?_ g
  have h0 : nth (HH (103, scrV Ls xs) τ A B) 0 = some (103, scrV Ls xs) := rfl
  have h1 : ix (nI j) Ls = some j := by
    unfold ix
    rw [if_neg (nI_pos h31), nI_clamp h31, if_pos hj]
  simp only [stp, e, kindI, stepI, s_ald, h0, scr_len, h1, scr_nth hj]
  rfl
theorem VV.sl (e : codeAt u pc = some (.arraylength, nx, ax, ng, sw)) (g : VV d u nx L (.int (nI Ls) :: r) (HH (103, scrV Ls xs) τ A B) Q) : VV d u pc L (.ref 0 :: r) (HH (103, scrV Ls xs) τ A B) Q := by
  refine VV.s (pc' := nx) (L' := L) (st' := .int (nI Ls) :: r) (h' := HH (103, scrV Ls xs) τ A B) ?_ g
  have h0 : nth (HH (103, scrV Ls xs) τ A B) 0 = some (103, scrV Ls xs) := rfl
  simp only [stp, e, kindI, stepI, s_len, h0, scr_len]
  rfl
theorem nI_lt6 {k : Nat} (hk : k < 6) {j : Nat} (hj : j < 2147483648) : nI k - nI 6 < nI j := by
  rw [Int32.lt_iff_toInt_lt, nI_toInt hj]
  rcases i6 hk with rfl | rfl | rfl | rfl | rfl | rfl
  · rw [show (nI 0 - nI 6).toInt = -6 by decide]; omega
  · rw [show (nI 1 - nI 6).toInt = -5 by decide]; omega
  · rw [show (nI 2 - nI 6).toInt = -4 by decide]; omega
  · rw [show (nI 3 - nI 6).toInt = -3 by decide]; omega
  · rw [show (nI 4 - nI 6).toInt = -2 by decide]; omega
  · rw [show (nI 5 - nI 6).toInt = -1 by decide]; omega
theorem law_end (hL : Ls ≤ 3072) (h6 : Ls < j + 6) (hj : j < 4000) (q : ∀ τ A B, Q (some (.int (nI 1))) (HH (103, scrV Ls xs) τ A B)) : VV 1000 213 18 [some (.ref 0), some (.ref 1), some (.ref 58), some (.int (nI j))] [] (HH (103, scrV Ls xs) τ A B) Q := by
  refine VV.s rfl ?_
  refine VV.s rfl ?_
  refine VV.sl rfl ?_
  refine VV.s rfl ?_
  by_cases c : Ls < 6
  · refine VV.s rfl ?_
    refine VV.s rfl ?_
    refine VV.i (fun _ => ?_) (fun z => absurd (nI_lt6 c (by omega)) z)
    repeat refine VV.s rfl ?_
    exact VV.r rfl (q τ A B)
  · refine VV.sub rfl (by omega) ?_
    refine VV.s rfl ?_
    refine VV.b (b_gtT (by omega) (by omega)) ?_
    repeat refine VV.s rfl ?_
    exact VV.r rfl (q τ A B)
def NX (Ls : Nat) (xs : Nat → Int32) (j : Nat) (Q : Option Value → Hp → Prop) : Prop := ∀ (s : St) (τ : Nat → Int32) (A : Nat → Nat → Int32) (B : Nat → Nat → Int64), IV s → RX s τ A B → RM s τ A B → VV 1000 213 1332 [some (.ref 0), some (.ref 1), some (.ref 58), some (.int (nI j))] [] (HH (103, scrV Ls xs) τ A B) Q
theorem law_size (h6 : j + 6 ≤ Ls) (hL : Ls ≤ 3072) (hi : IV s) (hX : RX s τ A B) (hM : RM s τ A B) (nxt : NX Ls xs j Q) : VV 1000 213 204 [some (.ref 0), some (.ref 1), some (.ref 58), some (.int (nI j))] [] (HH (103, scrV Ls xs) τ A B) Q := by
  refine VV.s rfl ?_
  refine VV.s rfl ?_
  refine VV.s rfl ?_
  refine VV.s rfl ?_
  refine VV.add rfl ?_
  refine VV.sc rfl (show j + 1 < Ls by omega) (by omega) ?_
  refine VV.c rfl (x_size (d := 996) hi _ τ A B _ hX (fun τ1 A1 B1 hX1 f1 => ?_))
  refine VV.s rfl ?_
  refine VV.s rfl ?_
  refine VV.s rfl ?_
  refine VV.s rfl ?_
  refine VV.add rfl ?_
  refine VV.sc rfl (show j + 1 < Ls by omega) (by omega) ?_
  refine VV.c rfl (m_size (d := 996) hi _ τ1 A1 B1 _ (hM.fx f1) (fun τ2 A2 B2 hM2 f2 => ?_))
  refine VV.s rfl ?_
  refine VV.i (fun _ => ?_) (fun z => absurd rfl z)
  exact nxt _ τ2 A2 B2 (iv_size hi) (hX1.fm f2) hM2
theorem law_set (h6 : j + 6 ≤ Ls) (hL : Ls ≤ 3072) (hi : IV s) (hX : RX s τ A B) (hM : RM s τ A B) (nxt : NX Ls xs j Q) : VV 1000 213 227 [some (.ref 0), some (.ref 1), some (.ref 58), some (.int (nI j))] [] (HH (103, scrV Ls xs) τ A B) Q := by
  refine VV.s rfl ?_
  refine VV.s rfl ?_
  refine VV.s rfl ?_
  refine VV.s rfl ?_
  refine VV.add rfl ?_
  refine VV.sc rfl (show j + 1 < Ls by omega) (by omega) ?_
  refine VV.s rfl ?_
  refine VV.s rfl ?_
  refine VV.s rfl ?_
  refine VV.add rfl ?_
  refine VV.sc rfl (show j + 2 < Ls by omega) (by omega) ?_
  refine VV.c rfl (x_set (d := 996) hi _ τ A B _ hX (fun τ1 A1 B1 hX1 f1 => ?_))
  refine VV.s rfl ?_
  refine VV.s rfl ?_
  refine VV.s rfl ?_
  refine VV.s rfl ?_
  refine VV.add rfl ?_
  refine VV.sc rfl (show j + 1 < Ls by omega) (by omega) ?_
  refine VV.s rfl ?_
  refine VV.s rfl ?_
  refine VV.s rfl ?_
  refine VV.add rfl ?_
  refine VV.sc rfl (show j + 2 < Ls by omega) (by omega) ?_
  refine VV.c rfl (m_set (d := 996) hi _ τ1 A1 B1 _ (hM.fx f1) (fun τ2 A2 B2 hM2 f2 => ?_))
  refine VV.s rfl ?_
  refine VV.i (fun _ => ?_) (fun z => absurd rfl z)
  exact nxt _ τ2 A2 B2 (iv_set hi) (hX1.fm f2) hM2
theorem law_turn (h6 : j + 6 ≤ Ls) (hL : Ls ≤ 3072) (hi : IV s) (hX : RX s τ A B) (hM : RM s τ A B) (nxt : NX Ls xs j Q) : VV 1000 213 260 [some (.ref 0), some (.ref 1), some (.ref 58), some (.int (nI j))] [] (HH (103, scrV Ls xs) τ A B) Q := by
  refine VV.s rfl ?_
  refine VV.c rfl (x_turn (d := 996) hi _ τ A B _ hX (fun τ1 A1 B1 hX1 f1 => ?_))
  refine VV.s rfl ?_
  refine VV.c rfl (m_turn (d := 996) hi _ τ1 A1 B1 _ (hM.fx f1) (fun τ2 A2 B2 hM2 f2 => ?_))
  refine VV.s rfl ?_
  exact nxt _ τ2 A2 B2 (iv_turn hi) (hX1.fm f2) hM2
theorem law_flip (h6 : j + 6 ≤ Ls) (hL : Ls ≤ 3072) (hi : IV s) (hX : RX s τ A B) (hM : RM s τ A B) (nxt : NX Ls xs j Q) : VV 1000 213 273 [some (.ref 0), some (.ref 1), some (.ref 58), some (.int (nI j))] [] (HH (103, scrV Ls xs) τ A B) Q := by
  refine VV.s rfl ?_
  refine VV.c rfl (x_flip (d := 996) hi _ τ A B _ hX (fun τ1 A1 B1 hX1 f1 => ?_))
  refine VV.s rfl ?_
  refine VV.c rfl (m_flip (d := 996) hi _ τ1 A1 B1 _ (hM.fx f1) (fun τ2 A2 B2 hM2 f2 => ?_))
  refine VV.s rfl ?_
  exact nxt _ τ2 A2 B2 (iv_flip hi) (hX1.fm f2) hM2
theorem law_chip (h6 : j + 6 ≤ Ls) (hL : Ls ≤ 3072) (hi : IV s) (hX : RX s τ A B) (hM : RM s τ A B) (nxt : NX Ls xs j Q) : VV 1000 213 286 [some (.ref 0), some (.ref 1), some (.ref 58), some (.int (nI j))] [] (HH (103, scrV Ls xs) τ A B) Q := by
  refine VV.s rfl ?_
  refine VV.s rfl ?_
  refine VV.s rfl ?_
  refine VV.s rfl ?_
  refine VV.add rfl ?_
  refine VV.sc rfl (show j + 1 < Ls by omega) (by omega) ?_
  refine VV.s rfl ?_
  refine VV.s rfl ?_
  refine VV.s rfl ?_
  refine VV.add rfl ?_
  refine VV.sc rfl (show j + 2 < Ls by omega) (by omega) ?_
  refine VV.s rfl ?_
  refine VV.s rfl ?_
  refine VV.s rfl ?_
  refine VV.add rfl ?_
  refine VV.sc rfl (show j + 3 < Ls by omega) (by omega) ?_
  refine VV.c rfl (x_chip (d := 996) hi _ τ A B _ hX (fun τ1 A1 B1 hX1 f1 => ?_))
  refine VV.s rfl ?_
  refine VV.s rfl ?_
  refine VV.s rfl ?_
  refine VV.s rfl ?_
  refine VV.add rfl ?_
  refine VV.sc rfl (show j + 1 < Ls by omega) (by omega) ?_
  refine VV.s rfl ?_
  refine VV.s rfl ?_
  refine VV.s rfl ?_
  refine VV.add rfl ?_
  refine VV.sc rfl (show j + 2 < Ls by omega) (by omega) ?_
  refine VV.s rfl ?_
  refine VV.s rfl ?_
  refine VV.s rfl ?_
  refine VV.add rfl ?_
  refine VV.sc rfl (show j + 3 < Ls by omega) (by omega) ?_
  refine VV.c rfl (m_chip (d := 996) hi _ τ1 A1 B1 _ (hM.fx f1) (fun τ2 A2 B2 hM2 f2 => ?_))
  refine VV.s rfl ?_
  refine VV.i (fun _ => ?_) (fun z => absurd rfl z)
  exact nxt _ τ2 A2 B2 (iv_chip hi) (hX1.fm f2) hM2
theorem law_clear (h6 : j + 6 ≤ Ls) (hL : Ls ≤ 3072) (hi : IV s) (hX : RX s τ A B) (hM : RM s τ A B) (nxt : NX Ls xs j Q) : VV 1000 213 329 [some (.ref 0), some (.ref 1), some (.ref 58), some (.int (nI j))] [] (HH (103, scrV Ls xs) τ A B) Q := by
  refine VV.s rfl ?_
  refine VV.c rfl (x_clear (d := 998) hi _ τ A B _ hX (fun τ1 A1 B1 hX1 f1 => ?_))
  refine VV.s rfl ?_
  refine VV.c rfl (m_clear (d := 998) hi _ τ1 A1 B1 _ (hM.fx f1) (fun τ2 A2 B2 hM2 f2 => ?_))
  refine VV.s rfl ?_
  refine VV.i (fun _ => ?_) (fun z => absurd rfl z)
  exact nxt _ τ2 A2 B2 (iv_clear hi) (hX1.fm f2) hM2
theorem law_take (h6 : j + 6 ≤ Ls) (hL : Ls ≤ 3072) (hi : IV s) (hX : RX s τ A B) (hM : RM s τ A B) (nxt : NX Ls xs j Q) : VV 1000 213 342 [some (.ref 0), some (.ref 1), some (.ref 58), some (.int (nI j))] [] (HH (103, scrV Ls xs) τ A B) Q := by
  refine VV.s rfl ?_
  refine VV.c rfl (x_take (d := 994) hi _ τ A B _ hX (fun τ1 A1 B1 hX1 f1 => ?_))
  refine VV.s rfl ?_
  refine VV.c rfl (m_take (d := 994) hi _ τ1 A1 B1 _ (hM.fx f1) (fun τ2 A2 B2 hM2 f2 => ?_))
  refine VV.s rfl ?_
  refine VV.i (fun _ => ?_) (fun z => absurd rfl z)
  exact nxt _ τ2 A2 B2 (iv_take hi) (hX1.fm f2) hM2
theorem law_vector (h6 : j + 6 ≤ Ls) (hL : Ls ≤ 3072) (hi : IV s) (hX : RX s τ A B) (hM : RM s τ A B) (nxt : NX Ls xs j Q) : VV 1000 213 355 [some (.ref 0), some (.ref 1), some (.ref 58), some (.int (nI j))] [] (HH (103, scrV Ls xs) τ A B) Q := by
  refine VV.s rfl ?_
  refine VV.s rfl ?_
  refine VV.s rfl ?_
  refine VV.s rfl ?_
  refine VV.add rfl ?_
  refine VV.sc rfl (show j + 1 < Ls by omega) (by omega) ?_
  refine VV.s rfl ?_
  refine VV.s rfl ?_
  refine VV.s rfl ?_
  refine VV.add rfl ?_
  refine VV.sc rfl (show j + 2 < Ls by omega) (by omega) ?_
  refine VV.c rfl (x_vector (d := 996) hi _ τ A B _ hX (fun τ1 A1 B1 hX1 f1 => ?_))
  refine VV.s rfl ?_
  refine VV.s rfl ?_
  refine VV.s rfl ?_
  refine VV.s rfl ?_
  refine VV.add rfl ?_
  refine VV.sc rfl (show j + 1 < Ls by omega) (by omega) ?_
  refine VV.s rfl ?_
  refine VV.s rfl ?_
  refine VV.s rfl ?_
  refine VV.add rfl ?_
  refine VV.sc rfl (show j + 2 < Ls by omega) (by omega) ?_
  refine VV.c rfl (m_vector (d := 996) hi _ τ1 A1 B1 _ (hM.fx f1) (fun τ2 A2 B2 hM2 f2 => ?_))
  refine VV.s rfl ?_
  refine VV.i (fun _ => ?_) (fun z => absurd rfl z)
  exact nxt _ τ2 A2 B2 (iv_vector hi) (hX1.fm f2) hM2
theorem law_feed (h6 : j + 6 ≤ Ls) (hL : Ls ≤ 3072) (hi : IV s) (hX : RX s τ A B) (hM : RM s τ A B) (nxt : NX Ls xs j Q) : VV 1000 213 388 [some (.ref 0), some (.ref 1), some (.ref 58), some (.int (nI j))] [] (HH (103, scrV Ls xs) τ A B) Q := by
  refine VV.s rfl ?_
  refine VV.s rfl ?_
  refine VV.s rfl ?_
  refine VV.s rfl ?_
  refine VV.add rfl ?_
  refine VV.sc rfl (show j + 1 < Ls by omega) (by omega) ?_
  refine VV.c rfl (x_feed (d := 996) hi _ τ A B _ hX (fun τ1 A1 B1 hX1 f1 => ?_))
  refine VV.s rfl ?_
  refine VV.s rfl ?_
  refine VV.s rfl ?_
  refine VV.s rfl ?_
  refine VV.add rfl ?_
  refine VV.sc rfl (show j + 1 < Ls by omega) (by omega) ?_
  refine VV.c rfl (m_feed (d := 996) hi _ τ1 A1 B1 _ (hM.fx f1) (fun τ2 A2 B2 hM2 f2 => ?_))
  refine VV.s rfl ?_
  refine VV.i (fun _ => ?_) (fun z => absurd rfl z)
  exact nxt _ τ2 A2 B2 (iv_feed hi) (hX1.fm f2) hM2
theorem law_read (h6 : j + 6 ≤ Ls) (hL : Ls ≤ 3072) (hi : IV s) (hX : RX s τ A B) (hM : RM s τ A B) (nxt : NX Ls xs j Q) : VV 1000 213 411 [some (.ref 0), some (.ref 1), some (.ref 58), some (.int (nI j))] [] (HH (103, scrV Ls xs) τ A B) Q := by
  refine VV.s rfl ?_
  refine VV.c rfl (x_read (d := 992) hi _ τ A B _ hX (fun τ1 A1 B1 hX1 f1 => ?_))
  refine VV.s rfl ?_
  refine VV.c rfl (m_read (d := 992) hi _ τ1 A1 B1 _ (hM.fx f1) (fun τ2 A2 B2 hM2 f2 => ?_))
  refine VV.s rfl ?_
  refine VV.i (fun _ => ?_) (fun z => absurd rfl z)
  exact nxt _ τ2 A2 B2 (iv_read hi) (hX1.fm f2) hM2
theorem law_of (h6 : j + 6 ≤ Ls) (hL : Ls ≤ 3072) (hi : IV s) (hX : RX s τ A B) (hM : RM s τ A B) (nxt : NX Ls xs j Q) : VV 1000 213 424 [some (.ref 0), some (.ref 1), some (.ref 58), some (.int (nI j))] [] (HH (103, scrV Ls xs) τ A B) Q := by
  refine VV.s rfl ?_
  refine VV.s rfl ?_
  refine VV.s rfl ?_
  refine VV.s rfl ?_
  refine VV.add rfl ?_
  refine VV.sc rfl (show j + 1 < Ls by omega) (by omega) ?_
  refine VV.s rfl ?_
  refine VV.s rfl ?_
  refine VV.s rfl ?_
  refine VV.add rfl ?_
  refine VV.sc rfl (show j + 2 < Ls by omega) (by omega) ?_
  refine VV.c rfl (x_of (d := 996) hi _ τ A B _ hX (fun τ1 A1 B1 hX1 f1 => ?_))
  refine VV.s rfl ?_
  refine VV.s rfl ?_
  refine VV.s rfl ?_
  refine VV.s rfl ?_
  refine VV.add rfl ?_
  refine VV.sc rfl (show j + 1 < Ls by omega) (by omega) ?_
  refine VV.s rfl ?_
  refine VV.s rfl ?_
  refine VV.s rfl ?_
  refine VV.add rfl ?_
  refine VV.sc rfl (show j + 2 < Ls by omega) (by omega) ?_
  refine VV.c rfl (m_of (d := 996) hi _ τ1 A1 B1 _ (hM.fx f1) (fun τ2 A2 B2 hM2 f2 => ?_))
  refine VV.s rfl ?_
  refine VV.i (fun _ => ?_) (fun z => absurd rfl z)
  exact nxt _ τ2 A2 B2 (hi) (hX1.fm f2) hM2
theorem law_told (h6 : j + 6 ≤ Ls) (hL : Ls ≤ 3072) (hi : IV s) (hX : RX s τ A B) (hM : RM s τ A B) (nxt : NX Ls xs j Q) : VV 1000 213 457 [some (.ref 0), some (.ref 1), some (.ref 58), some (.int (nI j))] [] (HH (103, scrV Ls xs) τ A B) Q := by
  refine VV.s rfl ?_
  refine VV.s rfl ?_
  refine VV.s rfl ?_
  refine VV.s rfl ?_
  refine VV.add rfl ?_
  refine VV.sc rfl (show j + 1 < Ls by omega) (by omega) ?_
  refine VV.c rfl (x_told (d := 992) hi _ τ A B _ hX (fun τ1 A1 B1 hX1 f1 => ?_))
  refine VV.s rfl ?_
  refine VV.s rfl ?_
  refine VV.s rfl ?_
  refine VV.s rfl ?_
  refine VV.add rfl ?_
  refine VV.sc rfl (show j + 1 < Ls by omega) (by omega) ?_
  refine VV.c rfl (m_told (d := 992) hi _ τ1 A1 B1 _ (hM.fx f1) (fun τ2 A2 B2 hM2 f2 => ?_))
  refine VV.s rfl ?_
  refine VV.i (fun _ => ?_) (fun z => absurd rfl z)
  exact nxt _ τ2 A2 B2 (hi) (hX1.fm f2) hM2
theorem law_chipOf (h6 : j + 6 ≤ Ls) (hL : Ls ≤ 3072) (hi : IV s) (hX : RX s τ A B) (hM : RM s τ A B) (nxt : NX Ls xs j Q) : VV 1000 213 480 [some (.ref 0), some (.ref 1), some (.ref 58), some (.int (nI j))] [] (HH (103, scrV Ls xs) τ A B) Q := by
  refine VV.s rfl ?_
  refine VV.s rfl ?_
  refine VV.s rfl ?_
  refine VV.s rfl ?_
  refine VV.add rfl ?_
  refine VV.sc rfl (show j + 1 < Ls by omega) (by omega) ?_
  refine VV.s rfl ?_
  refine VV.s rfl ?_
  refine VV.s rfl ?_
  refine VV.add rfl ?_
  refine VV.sc rfl (show j + 2 < Ls by omega) (by omega) ?_
  refine VV.c rfl (x_chipOf (d := 996) hi _ τ A B _ hX (fun τ1 A1 B1 hX1 f1 => ?_))
  refine VV.s rfl ?_
  refine VV.s rfl ?_
  refine VV.s rfl ?_
  refine VV.s rfl ?_
  refine VV.add rfl ?_
  refine VV.sc rfl (show j + 1 < Ls by omega) (by omega) ?_
  refine VV.s rfl ?_
  refine VV.s rfl ?_
  refine VV.s rfl ?_
  refine VV.add rfl ?_
  refine VV.sc rfl (show j + 2 < Ls by omega) (by omega) ?_
  refine VV.c rfl (m_chipOf (d := 996) hi _ τ1 A1 B1 _ (hM.fx f1) (fun τ2 A2 B2 hM2 f2 => ?_))
  refine VV.s rfl ?_
  refine VV.i (fun _ => ?_) (fun z => absurd rfl z)
  exact nxt _ τ2 A2 B2 (hi) (hX1.fm f2) hM2
theorem law_minor (h6 : j + 6 ≤ Ls) (hL : Ls ≤ 3072) (hi : IV s) (hX : RX s τ A B) (hM : RM s τ A B) (nxt : NX Ls xs j Q) : VV 1000 213 513 [some (.ref 0), some (.ref 1), some (.ref 58), some (.int (nI j))] [] (HH (103, scrV Ls xs) τ A B) Q := by
  refine VV.s rfl ?_
  refine VV.s rfl ?_
  refine VV.s rfl ?_
  refine VV.s rfl ?_
  refine VV.add rfl ?_
  refine VV.sc rfl (show j + 1 < Ls by omega) (by omega) ?_
  refine VV.s rfl ?_
  refine VV.s rfl ?_
  refine VV.s rfl ?_
  refine VV.add rfl ?_
  refine VV.sc rfl (show j + 2 < Ls by omega) (by omega) ?_
  refine VV.c rfl (x_minor (d := 995) hi _ τ A B _ hX (fun τ1 A1 B1 hX1 f1 => ?_))
  refine VV.s rfl ?_
  refine VV.s rfl ?_
  refine VV.s rfl ?_
  refine VV.s rfl ?_
  refine VV.add rfl ?_
  refine VV.sc rfl (show j + 1 < Ls by omega) (by omega) ?_
  refine VV.s rfl ?_
  refine VV.s rfl ?_
  refine VV.s rfl ?_
  refine VV.add rfl ?_
  refine VV.sc rfl (show j + 2 < Ls by omega) (by omega) ?_
  refine VV.c rfl (m_minor (d := 994) hi _ τ1 A1 B1 _ (hM.fx f1) (fun τ2 A2 B2 hM2 f2 => ?_))
  refine VV.s rfl ?_
  refine VV.s rfl ?_
  refine VV.leq (p := 1332) (fun _ => ?_) (fun z => absurd rfl z)
  exact nxt _ τ2 A2 B2 (iv_minor hi) (hX1.fm f2) hM2
theorem law_noted (h6 : j + 6 ≤ Ls) (hL : Ls ≤ 3072) (hi : IV s) (hX : RX s τ A B) (hM : RM s τ A B) (nxt : NX Ls xs j Q) : VV 1000 213 547 [some (.ref 0), some (.ref 1), some (.ref 58), some (.int (nI j))] [] (HH (103, scrV Ls xs) τ A B) Q := by
  refine VV.s rfl ?_
  refine VV.s rfl ?_
  refine VV.s rfl ?_
  refine VV.s rfl ?_
  refine VV.add rfl ?_
  refine VV.sc rfl (show j + 1 < Ls by omega) (by omega) ?_
  refine VV.c rfl (x_noted (d := 996) hi _ τ A B _ hX (fun τ1 A1 B1 hX1 f1 => ?_))
  refine VV.s rfl ?_
  refine VV.s rfl ?_
  refine VV.s rfl ?_
  refine VV.s rfl ?_
  refine VV.add rfl ?_
  refine VV.sc rfl (show j + 1 < Ls by omega) (by omega) ?_
  refine VV.c rfl (m_noted (d := 996) hi _ τ1 A1 B1 _ (hM.fx f1) (fun τ2 A2 B2 hM2 f2 => ?_))
  refine VV.s rfl ?_
  refine VV.i (fun _ => ?_) (fun z => absurd rfl z)
  exact nxt _ τ2 A2 B2 (hi) (hX1.fm f2) hM2
theorem law_first (h6 : j + 6 ≤ Ls) (hL : Ls ≤ 3072) (hi : IV s) (hX : RX s τ A B) (hM : RM s τ A B) (nxt : NX Ls xs j Q) : VV 1000 213 570 [some (.ref 0), some (.ref 1), some (.ref 58), some (.int (nI j))] [] (HH (103, scrV Ls xs) τ A B) Q := by
  refine VV.s rfl ?_
  refine VV.s rfl ?_
  refine VV.s rfl ?_
  refine VV.s rfl ?_
  refine VV.add rfl ?_
  refine VV.sc rfl (show j + 1 < Ls by omega) (by omega) ?_
  refine VV.c rfl (x_first (d := 994) hi _ τ A B _ hX (fun τ1 A1 B1 hX1 f1 => ?_))
  refine VV.s rfl ?_
  refine VV.s rfl ?_
  refine VV.s rfl ?_
  refine VV.s rfl ?_
  refine VV.add rfl ?_
  refine VV.sc rfl (show j + 1 < Ls by omega) (by omega) ?_
  refine VV.c rfl (m_first (d := 993) hi _ τ1 A1 B1 _ (hM.fx f1) (fun τ2 A2 B2 hM2 f2 => ?_))
  refine VV.s rfl ?_
  refine VV.s rfl ?_
  refine VV.leq (p := 1332) (fun _ => ?_) (fun z => absurd rfl z)
  exact nxt _ τ2 A2 B2 (hi) (hX1.fm f2) hM2
theorem law_factor (h6 : j + 6 ≤ Ls) (hL : Ls ≤ 3072) (hi : IV s) (hX : RX s τ A B) (hM : RM s τ A B) (nxt : NX Ls xs j Q) : VV 1000 213 594 [some (.ref 0), some (.ref 1), some (.ref 58), some (.int (nI j))] [] (HH (103, scrV Ls xs) τ A B) Q := by
  refine VV.s rfl ?_
  refine VV.s rfl ?_
  refine VV.s rfl ?_
  refine VV.s rfl ?_
  refine VV.add rfl ?_
  refine VV.sc rfl (show j + 1 < Ls by omega) (by omega) ?_
  refine VV.s rfl ?_
  refine VV.s rfl ?_
  refine VV.s rfl ?_
  refine VV.add rfl ?_
  refine VV.sc rfl (show j + 2 < Ls by omega) (by omega) ?_
  refine VV.c rfl (x_factor (d := 992) hi _ τ A B _ hX (fun τ1 A1 B1 hX1 f1 => ?_))
  refine VV.s rfl ?_
  refine VV.s rfl ?_
  refine VV.s rfl ?_
  refine VV.s rfl ?_
  refine VV.add rfl ?_
  refine VV.sc rfl (show j + 1 < Ls by omega) (by omega) ?_
  refine VV.s rfl ?_
  refine VV.s rfl ?_
  refine VV.s rfl ?_
  refine VV.add rfl ?_
  refine VV.sc rfl (show j + 2 < Ls by omega) (by omega) ?_
  refine VV.c rfl (m_factor (d := 992) hi _ τ1 A1 B1 _ (hM.fx f1) (fun τ2 A2 B2 hM2 f2 => ?_))
  refine VV.s rfl ?_
  refine VV.s rfl ?_
  refine VV.leq (p := 1332) (fun _ => ?_) (fun z => absurd rfl z)
  exact nxt _ τ2 A2 B2 (hi) (hX1.fm f2) hM2
theorem law_sum (h6 : j + 6 ≤ Ls) (hL : Ls ≤ 3072) (hi : IV s) (hX : RX s τ A B) (hM : RM s τ A B) (nxt : NX Ls xs j Q) : VV 1000 213 628 [some (.ref 0), some (.ref 1), some (.ref 58), some (.int (nI j))] [] (HH (103, scrV Ls xs) τ A B) Q := by
  refine VV.s rfl ?_
  refine VV.s rfl ?_
  refine VV.s rfl ?_
  refine VV.s rfl ?_
  refine VV.add rfl ?_
  refine VV.sc rfl (show j + 1 < Ls by omega) (by omega) ?_
  refine VV.c rfl (x_sum (d := 995) hi _ τ A B _ hX (fun τ1 A1 B1 hX1 f1 => ?_))
  refine VV.s rfl ?_
  refine VV.s rfl ?_
  refine VV.s rfl ?_
  refine VV.s rfl ?_
  refine VV.add rfl ?_
  refine VV.sc rfl (show j + 1 < Ls by omega) (by omega) ?_
  refine VV.c rfl (m_sum (d := 994) hi _ τ1 A1 B1 _ (hM.fx f1) (fun τ2 A2 B2 hM2 f2 => ?_))
  refine VV.s rfl ?_
  refine VV.s rfl ?_
  refine VV.leq (p := 1332) (fun _ => ?_) (fun z => absurd rfl z)
  exact nxt _ τ2 A2 B2 (hi) (hX1.fm f2) hM2
theorem law_unlike (h6 : j + 6 ≤ Ls) (hL : Ls ≤ 3072) (hi : IV s) (hX : RX s τ A B) (hM : RM s τ A B) (nxt : NX Ls xs j Q) : VV 1000 213 652 [some (.ref 0), some (.ref 1), some (.ref 58), some (.int (nI j))] [] (HH (103, scrV Ls xs) τ A B) Q := by
  refine VV.s rfl ?_
  refine VV.s rfl ?_
  refine VV.s rfl ?_
  refine VV.s rfl ?_
  refine VV.add rfl ?_
  refine VV.sc rfl (show j + 1 < Ls by omega) (by omega) ?_
  refine VV.c rfl (x_unlike (d := 995) hi _ τ A B _ hX (fun τ1 A1 B1 hX1 f1 => ?_))
  refine VV.s rfl ?_
  refine VV.s rfl ?_
  refine VV.s rfl ?_
  refine VV.s rfl ?_
  refine VV.add rfl ?_
  refine VV.sc rfl (show j + 1 < Ls by omega) (by omega) ?_
  refine VV.c rfl (m_unlike (d := 993) hi _ τ1 A1 B1 _ (hM.fx f1) (fun τ2 A2 B2 hM2 f2 => ?_))
  refine VV.s rfl ?_
  refine VV.i (fun _ => ?_) (fun z => absurd rfl z)
  exact nxt _ τ2 A2 B2 (hi) (hX1.fm f2) hM2
theorem law_may (h6 : j + 6 ≤ Ls) (hL : Ls ≤ 3072) (hi : IV s) (hX : RX s τ A B) (hM : RM s τ A B) (nxt : NX Ls xs j Q) : VV 1000 213 675 [some (.ref 0), some (.ref 1), some (.ref 58), some (.int (nI j))] [] (HH (103, scrV Ls xs) τ A B) Q := by
  refine VV.s rfl ?_
  refine VV.s rfl ?_
  refine VV.s rfl ?_
  refine VV.s rfl ?_
  refine VV.add rfl ?_
  refine VV.sc rfl (show j + 1 < Ls by omega) (by omega) ?_
  refine VV.s rfl ?_
  refine VV.s rfl ?_
  refine VV.s rfl ?_
  refine VV.add rfl ?_
  refine VV.sc rfl (show j + 2 < Ls by omega) (by omega) ?_
  refine VV.c rfl (x_may (d := 993) hi _ τ A B _ hX (fun τ1 A1 B1 hX1 f1 => ?_))
  refine VV.s rfl ?_
  refine VV.s rfl ?_
  refine VV.s rfl ?_
  refine VV.s rfl ?_
  refine VV.add rfl ?_
  refine VV.sc rfl (show j + 1 < Ls by omega) (by omega) ?_
  refine VV.s rfl ?_
  refine VV.s rfl ?_
  refine VV.s rfl ?_
  refine VV.add rfl ?_
  refine VV.sc rfl (show j + 2 < Ls by omega) (by omega) ?_
  refine VV.c rfl (m_may (d := 992) hi _ τ1 A1 B1 _ (hM.fx f1) (fun τ2 A2 B2 hM2 f2 => ?_))
  refine VV.s rfl ?_
  refine VV.i (fun _ => ?_) (fun z => absurd rfl z)
  exact nxt _ τ2 A2 B2 (hi) (hX1.fm f2) hM2
theorem law_product (h6 : j + 6 ≤ Ls) (hL : Ls ≤ 3072) (hi : IV s) (hX : RX s τ A B) (hM : RM s τ A B) (nxt : NX Ls xs j Q) : VV 1000 213 708 [some (.ref 0), some (.ref 1), some (.ref 58), some (.int (nI j))] [] (HH (103, scrV Ls xs) τ A B) Q := by
  refine VV.s rfl ?_
  refine VV.s rfl ?_
  refine VV.s rfl ?_
  refine VV.s rfl ?_
  refine VV.add rfl ?_
  refine VV.sc rfl (show j + 1 < Ls by omega) (by omega) ?_
  refine VV.c rfl (x_product (d := 994) hi _ τ A B _ hX (fun τ1 A1 B1 hX1 f1 => ?_))
  refine VV.s rfl ?_
  refine VV.s rfl ?_
  refine VV.s rfl ?_
  refine VV.s rfl ?_
  refine VV.add rfl ?_
  refine VV.sc rfl (show j + 1 < Ls by omega) (by omega) ?_
  refine VV.c rfl (m_product (d := 994) hi _ τ1 A1 B1 _ (hM.fx f1) (fun τ2 A2 B2 hM2 f2 => ?_))
  refine VV.s rfl ?_
  refine VV.s rfl ?_
  refine VV.leq (p := 1332) (fun _ => ?_) (fun z => absurd rfl z)
  exact nxt _ τ2 A2 B2 (hi) (hX1.fm f2) hM2
theorem law_productMinor (h6 : j + 6 ≤ Ls) (hL : Ls ≤ 3072) (hi : IV s) (hX : RX s τ A B) (hM : RM s τ A B) (nxt : NX Ls xs j Q) : VV 1000 213 732 [some (.ref 0), some (.ref 1), some (.ref 58), some (.int (nI j))] [] (HH (103, scrV Ls xs) τ A B) Q := by
  refine VV.s rfl ?_
  refine VV.s rfl ?_
  refine VV.s rfl ?_
  refine VV.s rfl ?_
  refine VV.add rfl ?_
  refine VV.sc rfl (show j + 1 < Ls by omega) (by omega) ?_
  refine VV.s rfl ?_
  refine VV.s rfl ?_
  refine VV.s rfl ?_
  refine VV.add rfl ?_
  refine VV.sc rfl (show j + 2 < Ls by omega) (by omega) ?_
  refine VV.c rfl (x_productMinor (d := 994) hi _ τ A B _ hX (fun τ1 A1 B1 hX1 f1 => ?_))
  refine VV.s rfl ?_
  refine VV.s rfl ?_
  refine VV.s rfl ?_
  refine VV.s rfl ?_
  refine VV.add rfl ?_
  refine VV.sc rfl (show j + 1 < Ls by omega) (by omega) ?_
  refine VV.s rfl ?_
  refine VV.s rfl ?_
  refine VV.s rfl ?_
  refine VV.add rfl ?_
  refine VV.sc rfl (show j + 2 < Ls by omega) (by omega) ?_
  refine VV.c rfl (m_productMinor (d := 994) hi _ τ1 A1 B1 _ (hM.fx f1) (fun τ2 A2 B2 hM2 f2 => ?_))
  refine VV.s rfl ?_
  refine VV.s rfl ?_
  refine VV.leq (p := 1332) (fun _ => ?_) (fun z => absurd rfl z)
  exact nxt _ τ2 A2 B2 (hi) (hX1.fm f2) hM2
theorem law_paths (h6 : j + 6 ≤ Ls) (hL : Ls ≤ 3072) (hi : IV s) (hX : RX s τ A B) (hM : RM s τ A B) (nxt : NX Ls xs j Q) : VV 1000 213 766 [some (.ref 0), some (.ref 1), some (.ref 58), some (.int (nI j))] [] (HH (103, scrV Ls xs) τ A B) Q := by
  refine VV.s rfl ?_
  refine VV.s rfl ?_
  refine VV.s rfl ?_
  refine VV.s rfl ?_
  refine VV.add rfl ?_
  refine VV.sc rfl (show j + 1 < Ls by omega) (by omega) ?_
  refine VV.s rfl ?_
  refine VV.s rfl ?_
  refine VV.s rfl ?_
  refine VV.add rfl ?_
  refine VV.sc rfl (show j + 2 < Ls by omega) (by omega) ?_
  refine VV.c rfl (x_paths (d := 994) hi _ τ A B _ hX (fun τ1 A1 B1 hX1 f1 => ?_))
  refine VV.s rfl ?_
  refine VV.s rfl ?_
  refine VV.s rfl ?_
  refine VV.s rfl ?_
  refine VV.add rfl ?_
  refine VV.sc rfl (show j + 1 < Ls by omega) (by omega) ?_
  refine VV.s rfl ?_
  refine VV.s rfl ?_
  refine VV.s rfl ?_
  refine VV.add rfl ?_
  refine VV.sc rfl (show j + 2 < Ls by omega) (by omega) ?_
  refine VV.c rfl (m_paths (d := 994) hi _ τ1 A1 B1 _ (hM.fx f1) (fun τ2 A2 B2 hM2 f2 => ?_))
  refine VV.s rfl ?_
  refine VV.s rfl ?_
  refine VV.leq (p := 1332) (fun _ => ?_) (fun z => absurd rfl z)
  exact nxt _ τ2 A2 B2 (hi) (hX1.fm f2) hM2
theorem law_see (h6 : j + 6 ≤ Ls) (hL : Ls ≤ 3072) (hi : IV s) (hX : RX s τ A B) (hM : RM s τ A B) (nxt : NX Ls xs j Q) : VV 1000 213 800 [some (.ref 0), some (.ref 1), some (.ref 58), some (.int (nI j))] [] (HH (103, scrV Ls xs) τ A B) Q := by
  refine VV.s rfl ?_
  refine VV.s rfl ?_
  refine VV.s rfl ?_
  refine VV.s rfl ?_
  refine VV.add rfl ?_
  refine VV.sc rfl (show j + 1 < Ls by omega) (by omega) ?_
  refine VV.s rfl ?_
  refine VV.s rfl ?_
  refine VV.s rfl ?_
  refine VV.add rfl ?_
  refine VV.sc rfl (show j + 2 < Ls by omega) (by omega) ?_
  refine VV.s rfl ?_
  refine VV.s rfl ?_
  refine VV.s rfl ?_
  refine VV.add rfl ?_
  refine VV.sc rfl (show j + 3 < Ls by omega) (by omega) ?_
  refine VV.c rfl (x_see (d := 996) hi _ τ A B _ hX (fun τ1 A1 B1 hX1 f1 => ?_))
  refine VV.s rfl ?_
  refine VV.s rfl ?_
  refine VV.s rfl ?_
  refine VV.s rfl ?_
  refine VV.add rfl ?_
  refine VV.sc rfl (show j + 1 < Ls by omega) (by omega) ?_
  refine VV.s rfl ?_
  refine VV.s rfl ?_
  refine VV.s rfl ?_
  refine VV.add rfl ?_
  refine VV.sc rfl (show j + 2 < Ls by omega) (by omega) ?_
  refine VV.s rfl ?_
  refine VV.s rfl ?_
  refine VV.s rfl ?_
  refine VV.add rfl ?_
  refine VV.sc rfl (show j + 3 < Ls by omega) (by omega) ?_
  refine VV.c rfl (m_see (d := 996) hi _ τ1 A1 B1 _ (hM.fx f1) (fun τ2 A2 B2 hM2 f2 => ?_))
  refine VV.s rfl ?_
  refine VV.i (fun _ => ?_) (fun z => absurd rfl z)
  exact nxt _ τ2 A2 B2 (iv_see hi) (hX1.fm f2) hM2
theorem law_fits (h6 : j + 6 ≤ Ls) (hL : Ls ≤ 3072) (hi : IV s) (hX : RX s τ A B) (hM : RM s τ A B) (nxt : NX Ls xs j Q) : VV 1000 213 843 [some (.ref 0), some (.ref 1), some (.ref 58), some (.int (nI j))] [] (HH (103, scrV Ls xs) τ A B) Q := by
  refine VV.s rfl ?_
  refine VV.s rfl ?_
  refine VV.s rfl ?_
  refine VV.s rfl ?_
  refine VV.add rfl ?_
  refine VV.sc rfl (show j + 1 < Ls by omega) (by omega) ?_
  refine VV.s rfl ?_
  refine VV.s rfl ?_
  refine VV.s rfl ?_
  refine VV.add rfl ?_
  refine VV.sc rfl (show j + 2 < Ls by omega) (by omega) ?_
  refine VV.c rfl (x_fits (d := 993) hi _ τ A B _ hX (fun τ1 A1 B1 hX1 f1 => ?_))
  refine VV.s rfl ?_
  refine VV.s rfl ?_
  refine VV.s rfl ?_
  refine VV.s rfl ?_
  refine VV.add rfl ?_
  refine VV.sc rfl (show j + 1 < Ls by omega) (by omega) ?_
  refine VV.s rfl ?_
  refine VV.s rfl ?_
  refine VV.s rfl ?_
  refine VV.add rfl ?_
  refine VV.sc rfl (show j + 2 < Ls by omega) (by omega) ?_
  refine VV.c rfl (m_fits (d := 992) hi _ τ1 A1 B1 _ (hM.fx f1) (fun τ2 A2 B2 hM2 f2 => ?_))
  refine VV.s rfl ?_
  refine VV.i (fun _ => ?_) (fun z => absurd rfl z)
  exact nxt _ τ2 A2 B2 (hi) (hX1.fm f2) hM2
theorem law_odds (h6 : j + 6 ≤ Ls) (hL : Ls ≤ 3072) (hi : IV s) (hX : RX s τ A B) (hM : RM s τ A B) (nxt : NX Ls xs j Q) : VV 1000 213 876 [some (.ref 0), some (.ref 1), some (.ref 58), some (.int (nI j))] [] (HH (103, scrV Ls xs) τ A B) Q := by
  refine VV.s rfl ?_
  refine VV.s rfl ?_
  refine VV.s rfl ?_
  refine VV.s rfl ?_
  refine VV.add rfl ?_
  refine VV.sc rfl (show j + 1 < Ls by omega) (by omega) ?_
  refine VV.s rfl ?_
  refine VV.s rfl ?_
  refine VV.s rfl ?_
  refine VV.add rfl ?_
  refine VV.sc rfl (show j + 2 < Ls by omega) (by omega) ?_
  refine VV.c rfl (x_odds (d := 995) hi _ τ A B _ hX (fun τ1 A1 B1 hX1 f1 => ?_))
  refine VV.s rfl ?_
  refine VV.s rfl ?_
  refine VV.s rfl ?_
  refine VV.s rfl ?_
  refine VV.add rfl ?_
  refine VV.sc rfl (show j + 1 < Ls by omega) (by omega) ?_
  refine VV.s rfl ?_
  refine VV.s rfl ?_
  refine VV.s rfl ?_
  refine VV.add rfl ?_
  refine VV.sc rfl (show j + 2 < Ls by omega) (by omega) ?_
  refine VV.c rfl (m_odds (d := 993) hi _ τ1 A1 B1 _ (hM.fx f1) (fun τ2 A2 B2 hM2 f2 => ?_))
  refine VV.s rfl ?_
  refine VV.s rfl ?_
  refine VV.leq (p := 1332) (fun _ => ?_) (fun z => absurd rfl z)
  exact nxt _ τ2 A2 B2 (hi) (hX1.fm f2) hM2
theorem law_mean (h6 : j + 6 ≤ Ls) (hL : Ls ≤ 3072) (hi : IV s) (hX : RX s τ A B) (hM : RM s τ A B) (nxt : NX Ls xs j Q) : VV 1000 213 910 [some (.ref 0), some (.ref 1), some (.ref 58), some (.int (nI j))] [] (HH (103, scrV Ls xs) τ A B) Q := by
  refine VV.s rfl ?_
  refine VV.s rfl ?_
  refine VV.s rfl ?_
  refine VV.s rfl ?_
  refine VV.add rfl ?_
  refine VV.sc rfl (show j + 1 < Ls by omega) (by omega) ?_
  refine VV.c rfl (x_mean (d := 995) hi _ τ A B _ hX (fun τ1 A1 B1 hX1 f1 => ?_))
  refine VV.s rfl ?_
  refine VV.s rfl ?_
  refine VV.s rfl ?_
  refine VV.s rfl ?_
  refine VV.add rfl ?_
  refine VV.sc rfl (show j + 1 < Ls by omega) (by omega) ?_
  refine VV.c rfl (m_mean (d := 993) hi _ τ1 A1 B1 _ (hM.fx f1) (fun τ2 A2 B2 hM2 f2 => ?_))
  refine VV.s rfl ?_
  refine VV.s rfl ?_
  refine VV.leq (p := 1332) (fun _ => ?_) (fun z => absurd rfl z)
  exact nxt _ τ2 A2 B2 (hi) (hX1.fm f2) hM2
theorem law_event (h6 : j + 6 ≤ Ls) (hL : Ls ≤ 3072) (hi : IV s) (hX : RX s τ A B) (hM : RM s τ A B) (nxt : NX Ls xs j Q) : VV 1000 213 934 [some (.ref 0), some (.ref 1), some (.ref 58), some (.int (nI j))] [] (HH (103, scrV Ls xs) τ A B) Q := by
  refine VV.s rfl ?_
  refine VV.s rfl ?_
  refine VV.s rfl ?_
  refine VV.s rfl ?_
  refine VV.add rfl ?_
  refine VV.sc rfl (show j + 1 < Ls by omega) (by omega) ?_
  refine VV.s rfl ?_
  refine VV.s rfl ?_
  refine VV.s rfl ?_
  refine VV.add rfl ?_
  refine VV.sc rfl (show j + 2 < Ls by omega) (by omega) ?_
  refine VV.c rfl (x_event (d := 996) hi _ τ A B _ hX (fun τ1 A1 B1 hX1 f1 => ?_))
  refine VV.s rfl ?_
  refine VV.s rfl ?_
  refine VV.s rfl ?_
  refine VV.s rfl ?_
  refine VV.add rfl ?_
  refine VV.sc rfl (show j + 1 < Ls by omega) (by omega) ?_
  refine VV.s rfl ?_
  refine VV.s rfl ?_
  refine VV.s rfl ?_
  refine VV.add rfl ?_
  refine VV.sc rfl (show j + 2 < Ls by omega) (by omega) ?_
  refine VV.c rfl (m_event (d := 996) hi _ τ1 A1 B1 _ (hM.fx f1) (fun τ2 A2 B2 hM2 f2 => ?_))
  refine VV.s rfl ?_
  refine VV.i (fun _ => ?_) (fun z => absurd rfl z)
  exact nxt _ τ2 A2 B2 (iv_event hi) (hX1.fm f2) hM2
theorem law_after (h6 : j + 6 ≤ Ls) (hL : Ls ≤ 3072) (hi : IV s) (hX : RX s τ A B) (hM : RM s τ A B) (nxt : NX Ls xs j Q) : VV 1000 213 967 [some (.ref 0), some (.ref 1), some (.ref 58), some (.int (nI j))] [] (HH (103, scrV Ls xs) τ A B) Q := by
  refine VV.s rfl ?_
  refine VV.s rfl ?_
  refine VV.s rfl ?_
  refine VV.s rfl ?_
  refine VV.add rfl ?_
  refine VV.sc rfl (show j + 1 < Ls by omega) (by omega) ?_
  refine VV.c rfl (x_after (d := 993) hi _ τ A B _ hX (fun τ1 A1 B1 hX1 f1 => ?_))
  refine VV.s rfl ?_
  refine VV.s rfl ?_
  refine VV.s rfl ?_
  refine VV.s rfl ?_
  refine VV.add rfl ?_
  refine VV.sc rfl (show j + 1 < Ls by omega) (by omega) ?_
  refine VV.c rfl (m_after (d := 992) hi _ τ1 A1 B1 _ (hM.fx f1) (fun τ2 A2 B2 hM2 f2 => ?_))
  refine VV.s rfl ?_
  refine VV.s rfl ?_
  refine VV.leq (p := 1332) (fun _ => ?_) (fun z => absurd rfl z)
  exact nxt _ τ2 A2 B2 (hi) (hX1.fm f2) hM2
theorem law_book (h6 : j + 6 ≤ Ls) (hL : Ls ≤ 3072) (hi : IV s) (hX : RX s τ A B) (hM : RM s τ A B) (nxt : NX Ls xs j Q) : VV 1000 213 991 [some (.ref 0), some (.ref 1), some (.ref 58), some (.int (nI j))] [] (HH (103, scrV Ls xs) τ A B) Q := by
  refine VV.s rfl ?_
  refine VV.s rfl ?_
  refine VV.s rfl ?_
  refine VV.s rfl ?_
  refine VV.add rfl ?_
  refine VV.sc rfl (show j + 1 < Ls by omega) (by omega) ?_
  refine VV.s rfl ?_
  refine VV.s rfl ?_
  refine VV.s rfl ?_
  refine VV.add rfl ?_
  refine VV.sc rfl (show j + 2 < Ls by omega) (by omega) ?_
  refine VV.c rfl (x_book (d := 996) hi _ τ A B _ hX (fun τ1 A1 B1 hX1 f1 => ?_))
  refine VV.s rfl ?_
  refine VV.s rfl ?_
  refine VV.s rfl ?_
  refine VV.s rfl ?_
  refine VV.add rfl ?_
  refine VV.sc rfl (show j + 1 < Ls by omega) (by omega) ?_
  refine VV.s rfl ?_
  refine VV.s rfl ?_
  refine VV.s rfl ?_
  refine VV.add rfl ?_
  refine VV.sc rfl (show j + 2 < Ls by omega) (by omega) ?_
  refine VV.c rfl (m_book (d := 996) hi _ τ1 A1 B1 _ (hM.fx f1) (fun τ2 A2 B2 hM2 f2 => ?_))
  refine VV.s rfl ?_
  refine VV.i (fun _ => ?_) (fun z => absurd rfl z)
  exact nxt _ τ2 A2 B2 (iv_book hi) (hX1.fm f2) hM2
theorem law_looked (h6 : j + 6 ≤ Ls) (hL : Ls ≤ 3072) (hi : IV s) (hX : RX s τ A B) (hM : RM s τ A B) (nxt : NX Ls xs j Q) : VV 1000 213 1024 [some (.ref 0), some (.ref 1), some (.ref 58), some (.int (nI j))] [] (HH (103, scrV Ls xs) τ A B) Q := by
  refine VV.s rfl ?_
  refine VV.c rfl (x_looked (d := 995) hi _ τ A B _ hX (fun τ1 A1 B1 hX1 f1 => ?_))
  refine VV.s rfl ?_
  refine VV.c rfl (m_looked (d := 995) hi _ τ1 A1 B1 _ (hM.fx f1) (fun τ2 A2 B2 hM2 f2 => ?_))
  refine VV.s rfl ?_
  refine VV.i (fun _ => ?_) (fun z => absurd rfl z)
  exact nxt _ τ2 A2 B2 (hi) (hX1.fm f2) hM2
theorem law_judge (h6 : j + 6 ≤ Ls) (hL : Ls ≤ 3072) (hi : IV s) (hX : RX s τ A B) (hM : RM s τ A B) (nxt : NX Ls xs j Q) : VV 1000 213 1037 [some (.ref 0), some (.ref 1), some (.ref 58), some (.int (nI j))] [] (HH (103, scrV Ls xs) τ A B) Q := by
  refine VV.s rfl ?_
  refine VV.s rfl ?_
  refine VV.s rfl ?_
  refine VV.s rfl ?_
  refine VV.add rfl ?_
  refine VV.sc rfl (show j + 1 < Ls by omega) (by omega) ?_
  refine VV.s rfl ?_
  refine VV.s rfl ?_
  refine VV.s rfl ?_
  refine VV.add rfl ?_
  refine VV.sc rfl (show j + 2 < Ls by omega) (by omega) ?_
  refine VV.c rfl (x_judge (d := 996) hi _ τ A B _ hX (fun τ1 A1 B1 hX1 f1 => ?_))
  refine VV.s rfl ?_
  refine VV.s rfl ?_
  refine VV.s rfl ?_
  refine VV.s rfl ?_
  refine VV.add rfl ?_
  refine VV.sc rfl (show j + 1 < Ls by omega) (by omega) ?_
  refine VV.s rfl ?_
  refine VV.s rfl ?_
  refine VV.s rfl ?_
  refine VV.add rfl ?_
  refine VV.sc rfl (show j + 2 < Ls by omega) (by omega) ?_
  refine VV.c rfl (m_judge (d := 996) hi _ τ1 A1 B1 _ (hM.fx f1) (fun τ2 A2 B2 hM2 f2 => ?_))
  refine VV.s rfl ?_
  refine VV.i (fun _ => ?_) (fun z => absurd rfl z)
  exact nxt _ τ2 A2 B2 (hi) (hX1.fm f2) hM2
theorem law_image (h6 : j + 6 ≤ Ls) (hL : Ls ≤ 3072) (hi : IV s) (hX : RX s τ A B) (hM : RM s τ A B) (nxt : NX Ls xs j Q) : VV 1000 213 1070 [some (.ref 0), some (.ref 1), some (.ref 58), some (.int (nI j))] [] (HH (103, scrV Ls xs) τ A B) Q := by
  refine VV.s rfl ?_
  refine VV.c rfl (x_image (d := 994) hi _ τ A B _ hX (fun τ1 A1 B1 hX1 f1 => ?_))
  refine VV.s rfl ?_
  refine VV.c rfl (m_image (d := 996) hi _ τ1 A1 B1 _ (hM.fx f1) (fun τ2 A2 B2 hM2 f2 => ?_))
  refine VV.s rfl ?_
  refine VV.i (fun _ => ?_) (fun z => absurd rfl z)
  exact nxt _ τ2 A2 B2 (iv_image hi) (hX1.fm f2) hM2
theorem law_undo (h6 : j + 6 ≤ Ls) (hL : Ls ≤ 3072) (hi : IV s) (hX : RX s τ A B) (hM : RM s τ A B) (nxt : NX Ls xs j Q) : VV 1000 213 1083 [some (.ref 0), some (.ref 1), some (.ref 58), some (.int (nI j))] [] (HH (103, scrV Ls xs) τ A B) Q := by
  refine VV.s rfl ?_
  refine VV.c rfl (x_undo (d := 994) hi _ τ A B _ hX (fun τ1 A1 B1 hX1 f1 => ?_))
  refine VV.s rfl ?_
  refine VV.c rfl (m_undo (d := 996) hi _ τ1 A1 B1 _ (hM.fx f1) (fun τ2 A2 B2 hM2 f2 => ?_))
  refine VV.s rfl ?_
  refine VV.i (fun _ => ?_) (fun z => absurd rfl z)
  exact nxt _ τ2 A2 B2 (iv_undo hi) (hX1.fm f2) hM2
theorem law_count (h6 : j + 6 ≤ Ls) (hL : Ls ≤ 3072) (hi : IV s) (hX : RX s τ A B) (hM : RM s τ A B) (nxt : NX Ls xs j Q) : VV 1000 213 1096 [some (.ref 0), some (.ref 1), some (.ref 58), some (.int (nI j))] [] (HH (103, scrV Ls xs) τ A B) Q := by
  refine VV.s rfl ?_
  refine VV.s rfl ?_
  refine VV.s rfl ?_
  refine VV.s rfl ?_
  refine VV.add rfl ?_
  refine VV.sc rfl (show j + 1 < Ls by omega) (by omega) ?_
  refine VV.c rfl (x_count (d := 996) hi _ τ A B _ hX (fun τ1 A1 B1 hX1 f1 => ?_))
  refine VV.s rfl ?_
  refine VV.s rfl ?_
  refine VV.s rfl ?_
  refine VV.s rfl ?_
  refine VV.add rfl ?_
  refine VV.sc rfl (show j + 1 < Ls by omega) (by omega) ?_
  refine VV.c rfl (m_count (d := 996) hi _ τ1 A1 B1 _ (hM.fx f1) (fun τ2 A2 B2 hM2 f2 => ?_))
  refine VV.s rfl ?_
  refine VV.i (fun _ => ?_) (fun z => absurd rfl z)
  exact nxt _ τ2 A2 B2 (hi) (hX1.fm f2) hM2
theorem law_tape (h6 : j + 6 ≤ Ls) (hL : Ls ≤ 3072) (hi : IV s) (hX : RX s τ A B) (hM : RM s τ A B) (nxt : NX Ls xs j Q) : VV 1000 213 1119 [some (.ref 0), some (.ref 1), some (.ref 58), some (.int (nI j))] [] (HH (103, scrV Ls xs) τ A B) Q := by
  refine VV.s rfl ?_
  refine VV.s rfl ?_
  refine VV.s rfl ?_
  refine VV.s rfl ?_
  refine VV.add rfl ?_
  refine VV.sc rfl (show j + 1 < Ls by omega) (by omega) ?_
  refine VV.s rfl ?_
  refine VV.s rfl ?_
  refine VV.s rfl ?_
  refine VV.add rfl ?_
  refine VV.sc rfl (show j + 2 < Ls by omega) (by omega) ?_
  refine VV.s rfl ?_
  refine VV.s rfl ?_
  refine VV.s rfl ?_
  refine VV.add rfl ?_
  refine VV.sc rfl (show j + 3 < Ls by omega) (by omega) ?_
  refine VV.c rfl (x_tape (d := 996) hi _ τ A B _ hX (fun τ1 A1 B1 hX1 f1 => ?_))
  refine VV.s rfl ?_
  refine VV.s rfl ?_
  refine VV.s rfl ?_
  refine VV.s rfl ?_
  refine VV.add rfl ?_
  refine VV.sc rfl (show j + 1 < Ls by omega) (by omega) ?_
  refine VV.s rfl ?_
  refine VV.s rfl ?_
  refine VV.s rfl ?_
  refine VV.add rfl ?_
  refine VV.sc rfl (show j + 2 < Ls by omega) (by omega) ?_
  refine VV.s rfl ?_
  refine VV.s rfl ?_
  refine VV.s rfl ?_
  refine VV.add rfl ?_
  refine VV.sc rfl (show j + 3 < Ls by omega) (by omega) ?_
  refine VV.c rfl (m_tape (d := 996) hi _ τ1 A1 B1 _ (hM.fx f1) (fun τ2 A2 B2 hM2 f2 => ?_))
  refine VV.s rfl ?_
  refine VV.i (fun _ => ?_) (fun z => absurd rfl z)
  exact nxt _ τ2 A2 B2 (iv_tape hi) (hX1.fm f2) hM2
theorem law_item (h6 : j + 6 ≤ Ls) (hL : Ls ≤ 3072) (hi : IV s) (hX : RX s τ A B) (hM : RM s τ A B) (nxt : NX Ls xs j Q) : VV 1000 213 1162 [some (.ref 0), some (.ref 1), some (.ref 58), some (.int (nI j))] [] (HH (103, scrV Ls xs) τ A B) Q := by
  refine VV.s rfl ?_
  refine VV.s rfl ?_
  refine VV.s rfl ?_
  refine VV.s rfl ?_
  refine VV.add rfl ?_
  refine VV.sc rfl (show j + 1 < Ls by omega) (by omega) ?_
  refine VV.s rfl ?_
  refine VV.s rfl ?_
  refine VV.s rfl ?_
  refine VV.add rfl ?_
  refine VV.sc rfl (show j + 2 < Ls by omega) (by omega) ?_
  refine VV.s rfl ?_
  refine VV.s rfl ?_
  refine VV.s rfl ?_
  refine VV.add rfl ?_
  refine VV.sc rfl (show j + 3 < Ls by omega) (by omega) ?_
  refine VV.s rfl ?_
  refine VV.s rfl ?_
  refine VV.s rfl ?_
  refine VV.s rfl ?_
  refine VV.s rfl ?_
  refine VV.s rfl ?_
  refine VV.add rfl ?_
  refine VV.sc rfl (show j + 4 < Ls by omega) (by omega) ?_
  refine VV.s rfl ?_
  refine VV.s rfl ?_
  refine VV.s rfl ?_
  refine VV.s rfl ?_
  refine VV.c rfl (x_item (d := 996) hi _ τ A B _ hX (fun τ1 A1 B1 hX1 f1 => ?_))
  refine VV.s rfl ?_
  refine VV.s rfl ?_
  refine VV.s rfl ?_
  refine VV.s rfl ?_
  refine VV.add rfl ?_
  refine VV.sc rfl (show j + 1 < Ls by omega) (by omega) ?_
  refine VV.s rfl ?_
  refine VV.s rfl ?_
  refine VV.s rfl ?_
  refine VV.add rfl ?_
  refine VV.sc rfl (show j + 2 < Ls by omega) (by omega) ?_
  refine VV.s rfl ?_
  refine VV.s rfl ?_
  refine VV.s rfl ?_
  refine VV.add rfl ?_
  refine VV.sc rfl (show j + 3 < Ls by omega) (by omega) ?_
  refine VV.s rfl ?_
  refine VV.s rfl ?_
  refine VV.s rfl ?_
  refine VV.s rfl ?_
  refine VV.s rfl ?_
  refine VV.s rfl ?_
  refine VV.add rfl ?_
  refine VV.sc rfl (show j + 4 < Ls by omega) (by omega) ?_
  refine VV.s rfl ?_
  refine VV.s rfl ?_
  refine VV.s rfl ?_
  refine VV.s rfl ?_
  refine VV.c rfl (m_item (d := 996) hi _ τ1 A1 B1 _ (hM.fx f1) (fun τ2 A2 B2 hM2 f2 => ?_))
  refine VV.s rfl ?_
  refine VV.i (fun _ => ?_) (fun z => absurd rfl z)
  exact nxt _ τ2 A2 B2 (iv_item hi) (hX1.fm f2) hM2
theorem law_peek (h6 : j + 6 ≤ Ls) (hL : Ls ≤ 3072) (hi : IV s) (hX : RX s τ A B) (hM : RM s τ A B) (nxt : NX Ls xs j Q) : VV 1000 213 1235 [some (.ref 0), some (.ref 1), some (.ref 58), some (.int (nI j))] [] (HH (103, scrV Ls xs) τ A B) Q := by
  refine VV.s rfl ?_
  refine VV.s rfl ?_
  refine VV.s rfl ?_
  refine VV.s rfl ?_
  refine VV.add rfl ?_
  refine VV.sc rfl (show j + 1 < Ls by omega) (by omega) ?_
  refine VV.s rfl ?_
  refine VV.s rfl ?_
  refine VV.s rfl ?_
  refine VV.add rfl ?_
  refine VV.sc rfl (show j + 2 < Ls by omega) (by omega) ?_
  refine VV.c rfl (x_peek (d := 996) hi _ τ A B _ hX (fun τ1 A1 B1 hX1 f1 => ?_))
  refine VV.s rfl ?_
  refine VV.s rfl ?_
  refine VV.s rfl ?_
  refine VV.s rfl ?_
  refine VV.add rfl ?_
  refine VV.sc rfl (show j + 1 < Ls by omega) (by omega) ?_
  refine VV.s rfl ?_
  refine VV.s rfl ?_
  refine VV.s rfl ?_
  refine VV.add rfl ?_
  refine VV.sc rfl (show j + 2 < Ls by omega) (by omega) ?_
  refine VV.c rfl (m_peek (d := 996) hi _ τ1 A1 B1 _ (hM.fx f1) (fun τ2 A2 B2 hM2 f2 => ?_))
  refine VV.s rfl ?_
  refine VV.s rfl ?_
  refine VV.leq (p := 1332) (fun _ => ?_) (fun z => absurd rfl z)
  exact nxt _ τ2 A2 B2 (hi) (hX1.fm f2) hM2
theorem law_shift (h6 : j + 6 ≤ Ls) (hL : Ls ≤ 3072) (hi : IV s) (hX : RX s τ A B) (hM : RM s τ A B) (nxt : NX Ls xs j Q) : VV 1000 213 1269 [some (.ref 0), some (.ref 1), some (.ref 58), some (.int (nI j))] [] (HH (103, scrV Ls xs) τ A B) Q := by
  refine VV.s rfl ?_
  refine VV.s rfl ?_
  refine VV.s rfl ?_
  refine VV.s rfl ?_
  refine VV.add rfl ?_
  refine VV.sc rfl (show j + 1 < Ls by omega) (by omega) ?_
  refine VV.s rfl ?_
  refine VV.s rfl ?_
  refine VV.s rfl ?_
  refine VV.add rfl ?_
  refine VV.sc rfl (show j + 2 < Ls by omega) (by omega) ?_
  refine VV.s rfl ?_
  refine VV.s rfl ?_
  refine VV.s rfl ?_
  refine VV.add rfl ?_
  refine VV.sc rfl (show j + 3 < Ls by omega) (by omega) ?_
  refine VV.s rfl ?_
  refine VV.s rfl ?_
  refine VV.s rfl ?_
  refine VV.add rfl ?_
  refine VV.sc rfl (show j + 4 < Ls by omega) (by omega) ?_
  refine VV.s rfl ?_
  refine VV.s rfl ?_
  refine VV.s rfl ?_
  refine VV.add rfl ?_
  refine VV.sc rfl (show j + 5 < Ls by omega) (by omega) ?_
  refine VV.c rfl (x_shift (d := 996) hi _ τ A B _ hX (fun τ1 A1 B1 hX1 f1 => ?_))
  refine VV.s rfl ?_
  refine VV.s rfl ?_
  refine VV.s rfl ?_
  refine VV.s rfl ?_
  refine VV.add rfl ?_
  refine VV.sc rfl (show j + 1 < Ls by omega) (by omega) ?_
  refine VV.s rfl ?_
  refine VV.s rfl ?_
  refine VV.s rfl ?_
  refine VV.add rfl ?_
  refine VV.sc rfl (show j + 2 < Ls by omega) (by omega) ?_
  refine VV.s rfl ?_
  refine VV.s rfl ?_
  refine VV.s rfl ?_
  refine VV.add rfl ?_
  refine VV.sc rfl (show j + 3 < Ls by omega) (by omega) ?_
  refine VV.s rfl ?_
  refine VV.s rfl ?_
  refine VV.s rfl ?_
  refine VV.add rfl ?_
  refine VV.sc rfl (show j + 4 < Ls by omega) (by omega) ?_
  refine VV.s rfl ?_
  refine VV.s rfl ?_
  refine VV.s rfl ?_
  refine VV.add rfl ?_
  refine VV.sc rfl (show j + 5 < Ls by omega) (by omega) ?_
  refine VV.c rfl (m_shift (d := 996) hi _ τ1 A1 B1 _ (hM.fx f1) (fun τ2 A2 B2 hM2 f2 => ?_))
  refine VV.s rfl ?_
  refine VV.i (fun _ => ?_) (fun z => absurd rfl z)
  exact nxt _ τ2 A2 B2 (iv_shift hi) (hX1.fm f2) hM2
theorem law_switch (h6 : j + 6 ≤ Ls) (hL : Ls ≤ 3072) (hi : IV s) (hX : RX s τ A B) (hM : RM s τ A B) (nxt : NX Ls xs j Q) {x : Int32} : VV 1000 213 33 [some (.ref 0), some (.ref 1), some (.ref 58), some (.int (nI j))] [.int x] (HH (103, scrV Ls xs) τ A B) Q := by
  refine VV.s rfl ?_
  refine VV.sw (fun _ => law_size h6 hL hi hX hM nxt) (fun _ => ?_)
  refine VV.sw (fun _ => law_set h6 hL hi hX hM nxt) (fun _ => ?_)
  refine VV.sw (fun _ => law_turn h6 hL hi hX hM nxt) (fun _ => ?_)
  refine VV.sw (fun _ => law_flip h6 hL hi hX hM nxt) (fun _ => ?_)
  refine VV.sw (fun _ => law_chip h6 hL hi hX hM nxt) (fun _ => ?_)
  refine VV.sw (fun _ => law_clear h6 hL hi hX hM nxt) (fun _ => ?_)
  refine VV.sw (fun _ => law_take h6 hL hi hX hM nxt) (fun _ => ?_)
  refine VV.sw (fun _ => law_vector h6 hL hi hX hM nxt) (fun _ => ?_)
  refine VV.sw (fun _ => law_feed h6 hL hi hX hM nxt) (fun _ => ?_)
  refine VV.sw (fun _ => law_read h6 hL hi hX hM nxt) (fun _ => ?_)
  refine VV.sw (fun _ => law_of h6 hL hi hX hM nxt) (fun _ => ?_)
  refine VV.sw (fun _ => law_told h6 hL hi hX hM nxt) (fun _ => ?_)
  refine VV.sw (fun _ => law_chipOf h6 hL hi hX hM nxt) (fun _ => ?_)
  refine VV.sw (fun _ => law_minor h6 hL hi hX hM nxt) (fun _ => ?_)
  refine VV.sw (fun _ => law_noted h6 hL hi hX hM nxt) (fun _ => ?_)
  refine VV.sw (fun _ => law_first h6 hL hi hX hM nxt) (fun _ => ?_)
  refine VV.sw (fun _ => law_factor h6 hL hi hX hM nxt) (fun _ => ?_)
  refine VV.sw (fun _ => law_sum h6 hL hi hX hM nxt) (fun _ => ?_)
  refine VV.sw (fun _ => law_unlike h6 hL hi hX hM nxt) (fun _ => ?_)
  refine VV.sw (fun _ => law_may h6 hL hi hX hM nxt) (fun _ => ?_)
  refine VV.sw (fun _ => law_product h6 hL hi hX hM nxt) (fun _ => ?_)
  refine VV.sw (fun _ => law_productMinor h6 hL hi hX hM nxt) (fun _ => ?_)
  refine VV.sw (fun _ => law_paths h6 hL hi hX hM nxt) (fun _ => ?_)
  refine VV.sw (fun _ => law_see h6 hL hi hX hM nxt) (fun _ => ?_)
  refine VV.sw (fun _ => law_fits h6 hL hi hX hM nxt) (fun _ => ?_)
  refine VV.sw (fun _ => law_odds h6 hL hi hX hM nxt) (fun _ => ?_)
  refine VV.sw (fun _ => law_mean h6 hL hi hX hM nxt) (fun _ => ?_)
  refine VV.sw (fun _ => law_event h6 hL hi hX hM nxt) (fun _ => ?_)
  refine VV.sw (fun _ => law_after h6 hL hi hX hM nxt) (fun _ => ?_)
  refine VV.sw (fun _ => law_book h6 hL hi hX hM nxt) (fun _ => ?_)
  refine VV.sw (fun _ => law_looked h6 hL hi hX hM nxt) (fun _ => ?_)
  refine VV.sw (fun _ => law_judge h6 hL hi hX hM nxt) (fun _ => ?_)
  refine VV.sw (fun _ => law_image h6 hL hi hX hM nxt) (fun _ => ?_)
  refine VV.sw (fun _ => law_undo h6 hL hi hX hM nxt) (fun _ => ?_)
  refine VV.sw (fun _ => law_count h6 hL hi hX hM nxt) (fun _ => ?_)
  refine VV.sw (fun _ => law_tape h6 hL hi hX hM nxt) (fun _ => ?_)
  refine VV.sw (fun _ => law_item h6 hL hi hX hM nxt) (fun _ => ?_)
  refine VV.sw (fun _ => law_peek h6 hL hi hX hM nxt) (fun _ => ?_)
  refine VV.sw (fun _ => law_shift h6 hL hi hX hM nxt) (fun _ => ?_)
  refine VV.sw0 ?_
  exact nxt s τ A B hi hX hM
theorem law_loop (hL : Ls ≤ 3072) (q : ∀ τ A B, Q (some (.int (nI 1))) (HH (103, scrV Ls xs) τ A B)) : ∀ (n j : Nat) (s : St) (τ : Nat → Int32) (A : Nat → Nat → Int32) (B : Nat → Nat → Int64), Ls < j + 6 * n → j ≤ 3078 → IV s → RX s τ A B → RM s τ A B → VV 1000 213 18 [some (.ref 0), some (.ref 1), some (.ref 58), some (.int (nI j))] [] (HH (103, scrV Ls xs) τ A B) Q := by
  intro n
  induction n with
  | zero =>
    intro j s τ A B hn hj hi hX hM
    exact law_end hL (by omega) (by omega) q
  | succ n ih =>
    intro j s τ A B hn hj hi hX hM
    by_cases h6 : j + 6 ≤ Ls
    · refine VV.s rfl ?_
      refine VV.s rfl ?_
      refine VV.sl rfl ?_
      refine VV.s rfl ?_
      refine VV.sub rfl (by omega) ?_
      refine VV.s rfl ?_
      refine VV.b (b_gtF (by omega) (by omega)) ?_
      refine VV.s rfl ?_
      refine VV.s rfl ?_
      refine VV.sc rfl (show j < Ls by omega) (by omega) ?_
      refine VV.s rfl ?_
      refine VV.s rfl ?_
      refine law_switch h6 hL hi hX hM (fun s τ A B hi hX hM => ?_)
      refine VV.inc rfl rfl rfl ?_
      refine VV.s rfl ?_
      exact ih (j + 6) s τ A B (by omega) (by omega) hi hX hM
    · exact law_end hL (by omega) (by omega) q
end LAW
theorem slt_HH (S : Cl) (τ : Nat → Int32) (A : Nat → Nat → Int32) (B : Nat → Nat → Int64) : slt (HH S τ A B) ≤ S.2.length + 10000 := by
  simp only [slt, HH, List.map_cons, List.map_nil, List.sum_cons, List.sum_nil, mkI_len, mkJ_len, List.length_cons, List.length_nil]
  omega
theorem pure_law : PureLaw := by
  intro Ls xs hL
  have V : VV 1000 213 0 [some (.ref 0), none, none, none] [] [(103, scrV Ls xs)] (fun v h' => v = some (.int (nI 1)) ∧ ∃ τ A B, h' = HH (103, scrV Ls xs) τ A B) :=
    law_begin (law_loop hL (fun τ A B => ⟨rfl, τ, A, B, rfl⟩) 600 0 s0 t0 a0 b0 (by omega) (by omega) ivB rxB rmB)
  obtain ⟨k, v, h', e, rfl, τ, A, B, rfl⟩ := V
  refine ⟨k, _, e, ?_, ?_⟩
  · show 93 ≤ 600000
    decide
  · have := slt_HH (103, scrV Ls xs) τ A B
    rw [show ((103, scrV Ls xs) : Cl).2.length = Ls from scr_len] at this
    omega
