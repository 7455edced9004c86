/-! what both hold: the state of THE TABLE and of all else, apart from how it lies in the heap -/
/-- what an image holds: lines, numbers (4 i + j), the vector, rows of three numbers -/
structure Co where
  n : Nat
  E : Nat → Int64
  V : Nat → Int64
  cm : Nat
  ck : Nat → Nat → Int32
  nm : Nat
  nt : Nat → Nat → Int32
  sm : Nat
  se : Nat → Nat → Int32
  em : Nat
  ev : Nat → Nat → Int32
  bm : Nat
  bk : Nat → Nat → Int32
structure St where
  c : Co
  im : Option Co
  tm : Nat
  tx : Nat → Int32
  ts : Nat → Nat
  th : Nat → Nat
  ti : Nat → Nat → Int64
/-- rows in the class -/
structure RR (τ : Nat → Int32) (A : Nat → Nat → Int32) (o m : Nat) (f : Nat → Nat → Int32) : Prop where
  h : τ (100 * o + 2) = nI m
  r : ∀ k w, k < m → w < 3 → A (o + 1) (3 * k + w) = f k w
/-- a scene of the class, p = 0 or 15 -/
structure RS (p : Nat) (c : Co) (τ : Nat → Int32) (A : Nat → Nat → Int32) (B : Nat → Nat → Int64) : Prop where
  n : τ (100 * (p + 3) + 2) = nI c.n
  E : ∀ i j, i < c.n → j < c.n → B (p + 4) (4 * i + j) = c.E (4 * i + j)
  V : ∀ i, i < 4 → B (p + 8) i = c.V i
  chip : RR τ A (p + 6) c.cm c.ck
  note : RR τ A (p + 9) c.nm c.nt
  seen : RR τ A (p + 11) c.sm c.se
  event : RR τ A (p + 13) c.em c.ev
  book : RR τ A (p + 15) c.bm c.bk
structure RX (s : St) (τ : Nat → Int32) (A : Nat → Nat → Int32) (B : Nat → Nat → Int64) : Prop where
  now : RS 0 s.c τ A B
  im0 : s.im = none → τ 102 = nI 0
  im1 : ∀ c, s.im = some c → τ 102 = nI 1 ∧ RS 15 c τ A B
  th : τ 3802 = nI s.tm
  tx : ∀ k, k < s.tm → A 39 k = s.tx k
  ts : ∀ t, t < 6 → τ (100 * (46 + 2 * t) + 1) = sI (s.ts t)
  tl : ∀ t, t < 6 → τ (100 * (46 + 2 * t) + 2) = nI (s.th t)
  ti : ∀ t j, t < 6 → j < 60 → B (47 + 2 * t) j = s.ti t j
/-- the reference -/
structure RM (s : St) (τ : Nat → Int32) (A : Nat → Nat → Int32) (B : Nat → Nat → Int64) : Prop where
  n : τ 5800 = nI s.c.n
  E : ∀ i j, i < s.c.n → j < s.c.n → (A 59 (4 * i + j)).toInt64 = s.c.E (4 * i + j)
  V : ∀ i, i < 4 → (A 60 i).toInt64 = s.c.V i
  cm : τ 5808 = nI s.c.cm
  ck : ∀ k, k < s.c.cm → A 65 k = s.c.ck k 0 ∧ A 66 k = s.c.ck k 1 ∧ A 67 k = s.c.ck k 2
  nm : τ 5805 = nI s.c.nm
  nt : ∀ k, k < s.c.nm → A 62 k = nI 100 * s.c.nt k 0 + s.c.nt k 1
  sm : τ 5826 = nI s.c.sm
  se : ∀ k, k < s.c.sm → A 75 k = s.c.se k 0 ∧ A 76 k = s.c.se k 1 ∧ A 77 k = s.c.se k 2
  em : τ 5829 = nI s.c.em
  ev : ∀ k, k < s.c.em → A 78 k = s.c.ev k 0 ∧ A 79 k = s.c.ev k 1
  bm : τ 5832 = nI s.c.bm
  bk : ∀ k, k < s.c.bm → A 80 k = s.c.bk k 0 ∧ A 81 k = s.c.bk k 1
  tm : τ 5815 = nI s.tm
  tx : ∀ k, k < s.tm → A 70 k = s.tx k
  ts : ∀ t, t < 6 → A 82 t = nI (s.ts t)
  tl : ∀ t, t < 6 → A 83 t = nI (s.th t)
  ti : ∀ t j, t < 6 → j < 60 → B 84 (60 * t + j) = s.ti t j
  im0 : s.im = none → τ 5837 = nI 0
  im1 : ∀ c, s.im = some c → τ 5837 = nI c.n ∧ (∀ i j, i < c.n → j < c.n → (A 86 (4 * i + j)).toInt64 = c.E (4 * i + j)) ∧ (∀ i, i < 4 → (A 87 i).toInt64 = c.V i) ∧ (τ 5845 = nI c.cm ∧ ∀ k w, k < c.cm → w < 3 → A 88 (3 * k + w) = c.ck k w) ∧ (τ 5846 = nI c.nm ∧ ∀ k, k < c.nm → A 89 k = nI 100 * c.nt k 0 + c.nt k 1) ∧ (τ 5847 = nI c.sm ∧ ∀ k w, k < c.sm → w < 3 → A 90 (3 * k + w) = c.se k w) ∧ (τ 5848 = nI c.em ∧ ∀ k w, k < c.em → w < 2 → A 91 (2 * k + w) = c.ev k w) ∧ (τ 5849 = nI c.bm ∧ ∀ k w, k < c.bm → w < 2 → A 92 (2 * k + w) = c.bk k w)
def bd (x : Int64) (b : Int) : Prop := -b ≤ x.toInt ∧ x.toInt ≤ b
/-- what is always so -/
structure IC (c : Co) : Prop where
  n2 : 2 ≤ c.n
  n4 : c.n ≤ 4
  E : ∀ i j, i < c.n → j < c.n → bd (c.E (4 * i + j)) 99
  V : ∀ i, i < 4 → bd (c.V i) 9
  V0 : ∀ i, c.n ≤ i → i < 4 → c.V i = 0
  cm : c.cm ≤ 12
  ck : ∀ k, k < c.cm → ∃ a i v : Nat, c.ck k 0 = nI a ∧ c.ck k 1 = nI i ∧ c.ck k 2 = nI v ∧ a < 3 ∧ (if a = 2 then i < c.n else i + 1 < c.n) ∧ 1 ≤ v ∧ v ≤ 9
  nm : c.nm ≤ 69
  nt : ∀ k, k < c.nm → ∃ R C : Nat, c.nt k 0 = nI R ∧ c.nt k 1 = nI C ∧ 1 ≤ R ∧ R < 2 ^ c.n ∧ 1 ≤ C ∧ C < 2 ^ c.n ∧ pop4 R = pop4 C
  nd : ∀ k l, k < l → l < c.nm → ¬ (c.nt k 0 = c.nt l 0 ∧ c.nt k 1 = c.nt l 1)
  sm : c.sm ≤ 4
  se : ∀ k, k < c.sm → ∃ R C : Nat, c.se k 0 = nI R ∧ c.se k 1 = nI C ∧ R < 16 ∧ C < 16
  em : c.em ≤ 8
  ev : ∀ k, k < c.em → ∃ a : Nat, c.ev k 0 = nI a ∧ a < 4 ∧ (a < 2 → ∃ i j, i < 4 ∧ j < 4 ∧ c.ev k 1 = nI (10 * i + j)) ∧ (a = 2 → ∃ r, r < 3 ∧ c.ev k 1 = nI r)
  bm : c.bm ≤ 8
  bk : ∀ k, k < c.bm → ∃ i j, i < 4 ∧ j < 4 ∧ c.bk k 0 = nI (10 * i + j)
structure IV (s : St) : Prop where
  c : IC s.c
  im : ∀ c, s.im = some c → IC c
  tm : s.tm ≤ 100
  ts : ∀ t, t < 6 → s.ts t ≤ 5 ∧ s.th t ≤ 60 ∧ (s.ts t = 0 → s.th t = 0)
structure FX (τ : Nat → Int32) (A : Nat → Nat → Int32) (B : Nat → Nat → Int64) (τ' : Nat → Int32) (A' : Nat → Nat → Int32) (B' : Nat → Nat → Int64) : Prop where
  t : ∀ k, 5800 ≤ k → τ' k = τ k
  a : ∀ k, 58 ≤ k → A' k = A k
  b : ∀ k, 58 ≤ k → B' k = B k
structure FM (τ : Nat → Int32) (A : Nat → Nat → Int32) (B : Nat → Nat → Int64) (τ' : Nat → Int32) (A' : Nat → Nat → Int32) (B' : Nat → Nat → Int64) : Prop where
  t : ∀ k, k < 5800 → τ' k = τ k
  a : ∀ k, k < 58 → A' k = A k
  b : ∀ k, k < 58 → B' k = B k
section FR
variable {τ τ' τ'' : Nat → Int32} {A A' A'' : Nat → Nat → Int32} {B B' B'' : Nat → Nat → Int64}
theorem FX.refl : FX τ A B τ A B := ⟨fun _ _ => rfl, fun _ _ => rfl, fun _ _ => rfl⟩
theorem FX.trans (h : FX τ A B τ' A' B') (g : FX τ' A' B' τ'' A'' B'') : FX τ A B τ'' A'' B'' := ⟨fun k hk => (g.t k hk).trans (h.t k hk), fun k hk => (g.a k hk).trans (h.a k hk), fun k hk => (g.b k hk).trans (h.b k hk)⟩
theorem FX.ut {k : Nat} {x : Int32} (hk : k < 5800) (h : FX τ A B τ' A' B') : FX τ A B (up τ' k x) A' B' := ⟨fun l hl => by rw [up_n (by omega), h.t l hl], h.a, h.b⟩
theorem FX.ua {k : Nat} {x : Nat → Int32} (hk : k < 58) (h : FX τ A B τ' A' B') : FX τ A B τ' (up A' k x) B' := ⟨h.t, fun l hl => by rw [up_n (by omega), h.a l hl], h.b⟩
theorem FX.ub {k : Nat} {x : Nat → Int64} (hk : k < 58) (h : FX τ A B τ' A' B') : FX τ A B τ' A' (up B' k x) := ⟨h.t, h.a, fun l hl => by rw [up_n (by omega), h.b l hl]⟩
theorem FM.refl : FM τ A B τ A B := ⟨fun _ _ => rfl, fun _ _ => rfl, fun _ _ => rfl⟩
theorem FM.trans (h : FM τ A B τ' A' B') (g : FM τ' A' B' τ'' A'' B'') : FM τ A B τ'' A'' B'' := ⟨fun k hk => (g.t k hk).trans (h.t k hk), fun k hk => (g.a k hk).trans (h.a k hk), fun k hk => (g.b k hk).trans (h.b k hk)⟩
theorem FM.ut {k : Nat} {x : Int32} (hk : 5800 ≤ k) (h : FM τ A B τ' A' B') : FM τ A B (up τ' k x) A' B' := ⟨fun l hl => by rw [up_n (by omega), h.t l hl], h.a, h.b⟩
theorem FM.ua {k : Nat} {x : Nat → Int32} (hk : 58 ≤ k) (h : FM τ A B τ' A' B') : FM τ A B τ' (up A' k x) B' := ⟨h.t, fun l hl => by rw [up_n (by omega), h.a l hl], h.b⟩
theorem FM.ub {k : Nat} {x : Nat → Int64} (hk : 58 ≤ k) (h : FM τ A B τ' A' B') : FM τ A B τ' A' (up B' k x) := ⟨h.t, h.a, fun l hl => by rw [up_n (by omega), h.b l hl]⟩
theorem RR.fm {o m : Nat} {f : Nat → Nat → Int32} (r : RR τ A o m f) (h : FM τ A B τ' A' B') (ho : o < 57) : RR τ' A' o m f := ⟨by rw [h.t _ (by omega), r.h], fun k w hk hw => by rw [h.a _ (by omega), r.r k w hk hw]⟩
theorem RS.fm {p : Nat} {c : Co} (r : RS p c τ A B) (h : FM τ A B τ' A' B') (hp : p ≤ 15) : RS p c τ' A' B' :=
  ⟨by rw [h.t _ (by omega), r.n], fun i j hi hj => by rw [h.b _ (by omega), r.E i j hi hj], fun i hi => by rw [h.b _ (by omega), r.V i hi], r.chip.fm h (by omega), r.note.fm h (by omega), r.seen.fm h (by omega), r.event.fm h (by omega), r.book.fm h (by omega)⟩
theorem RX.fm {s : St} (r : RX s τ A B) (h : FM τ A B τ' A' B') : RX s τ' A' B' :=
  ⟨r.now.fm h (by omega), fun e => by rw [h.t _ (by omega), r.im0 e], fun c e => ⟨by rw [h.t _ (by omega), (r.im1 c e).1], (r.im1 c e).2.fm h (by omega)⟩, by rw [h.t _ (by omega), r.th], fun k hk => by rw [h.a _ (by omega), r.tx k hk], fun t ht => by rw [h.t _ (by omega), r.ts t ht], fun t ht => by rw [h.t _ (by omega), r.tl t ht], fun t j ht hj => by rw [h.b _ (by omega), r.ti t j ht hj]⟩
theorem RM.fx {s : St} (r : RM s τ A B) (h : FX τ A B τ' A' B') : RM s τ' A' B' := by
  have ht := h.t
  have ha := h.a
  have hb := h.b
  constructor
  all_goals simp only [ht _ (show 5800 ≤ 5800 by decide), ht _ (show 5800 ≤ 5808 by decide), ht _ (show 5800 ≤ 5805 by decide), ht _ (show 5800 ≤ 5826 by decide), ht _ (show 5800 ≤ 5829 by decide), ht _ (show 5800 ≤ 5832 by decide), ht _ (show 5800 ≤ 5815 by decide), ht _ (show 5800 ≤ 5837 by decide), ht _ (show 5800 ≤ 5845 by decide), ht _ (show 5800 ≤ 5846 by decide), ht _ (show 5800 ≤ 5847 by decide), ht _ (show 5800 ≤ 5848 by decide), ht _ (show 5800 ≤ 5849 by decide), ha _ (show 58 ≤ 59 by decide), ha _ (show 58 ≤ 60 by decide), ha _ (show 58 ≤ 62 by decide), ha _ (show 58 ≤ 65 by decide), ha _ (show 58 ≤ 66 by decide), ha _ (show 58 ≤ 67 by decide), ha _ (show 58 ≤ 70 by decide), ha _ (show 58 ≤ 75 by decide), ha _ (show 58 ≤ 76 by decide), ha _ (show 58 ≤ 77 by decide), ha _ (show 58 ≤ 78 by decide), ha _ (show 58 ≤ 79 by decide), ha _ (show 58 ≤ 80 by decide), ha _ (show 58 ≤ 81 by decide), ha _ (show 58 ≤ 82 by decide), ha _ (show 58 ≤ 83 by decide), ha _ (show 58 ≤ 86 by decide), ha _ (show 58 ≤ 87 by decide), ha _ (show 58 ≤ 88 by decide), ha _ (show 58 ≤ 89 by decide), ha _ (show 58 ≤ 90 by decide), ha _ (show 58 ≤ 91 by decide), ha _ (show 58 ≤ 92 by decide), hb _ (show 58 ≤ 84 by decide)]
  · exact r.n
  · exact r.E
  · exact r.V
  · exact r.cm
  · exact r.ck
  · exact r.nm
  · exact r.nt
  · exact r.sm
  · exact r.se
  · exact r.em
  · exact r.ev
  · exact r.bm
  · exact r.bk
  · exact r.tm
  · exact r.tx
  · exact r.ts
  · exact r.tl
  · exact r.ti
  · exact r.im0
  · exact r.im1
end FR
